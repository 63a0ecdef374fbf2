theorem dX0_init_0 : decode cX0_init 0 = .ok (.aload_n 0, 1) := by decide +kernel
theorem dX0_init_1 : decode cX0_init 1 = .ok (.invokespecial 3, 3) := by decide +kernel
theorem dX0_init_4 : decode cX0_init 4 = .ok (.aload_n 0, 1) := by decide +kernel
theorem dX0_init_5 : decode cX0_init 5 = .ok (.bipush 60, 2) := by decide +kernel
theorem dX0_init_7 : decode cX0_init 7 = .ok (.newarray .int, 2) := by decide +kernel
theorem dX0_init_9 : decode cX0_init 9 = .ok (.putfield 9, 3) := by decide +kernel
theorem dX0_init_12 : decode cX0_init 12 = .ok (.aload_n 0, 1) := by decide +kernel
theorem dX0_init_13 : decode cX0_init 13 = .ok (.iconst 0, 1) := by decide +kernel
theorem dX0_init_14 : decode cX0_init 14 = .ok (.putfield 15, 3) := by decide +kernel
theorem dX0_init_17 : decode cX0_init 17 = .ok (.return_, 1) := by decide +kernel
set_option maxRecDepth 20000 in
theorem ggX0_add_X6_put : GoodIn wsX0_add wsX6_put := goodIn_r _ [6] (by decide +kernel) (by decide +kernel)
set_option maxRecDepth 20000 in
theorem gX0_add_X6_put : GoodIn wsX0_add (va_wsS RX0 19 yX6_put wsX6_put) := goodIn_app (goodIn_of _ (by decide +kernel)) ggX0_add_X6_put
theorem dX0_add_0 : decode cX0_add 0 = .ok (.aload_n 0, 1) := by decide +kernel
theorem dX0_add_1 : decode cX0_add 1 = .ok (.getfield 9, 3) := by decide +kernel
theorem dX0_add_4 : decode cX0_add 4 = .ok (.aload_n 0, 1) := by decide +kernel
theorem dX0_add_5 : decode cX0_add 5 = .ok (.getfield 15, 3) := by decide +kernel
theorem dX0_add_8 : decode cX0_add 8 = .ok (.iload_n 1, 1) := by decide +kernel
theorem dX0_add_9 : decode cX0_add 9 = .ok (.invokestatic 19, 3) := by decide +kernel
theorem dX0_add_12 : decode cX0_add 12 = .ok (.aload_n 0, 1) := by decide +kernel
theorem dX0_add_13 : decode cX0_add 13 = .ok (.dup, 1) := by decide +kernel
theorem dX0_add_14 : decode cX0_add 14 = .ok (.getfield 15, 3) := by decide +kernel
theorem dX0_add_17 : decode cX0_add 17 = .ok (.iconst 1, 1) := by decide +kernel
theorem dX0_add_18 : decode cX0_add 18 = .ok (.iadd, 1) := by decide +kernel
theorem dX0_add_19 : decode cX0_add 19 = .ok (.putfield 15, 3) := by decide +kernel
theorem dX0_add_22 : decode cX0_add 22 = .ok (.return_, 1) := by decide +kernel
theorem dX1_init_0 : decode cX1_init 0 = .ok (.aload_n 0, 1) := by decide +kernel
theorem dX1_init_1 : decode cX1_init 1 = .ok (.invokespecial 3, 3) := by decide +kernel
theorem dX1_init_4 : decode cX1_init 4 = .ok (.aload_n 0, 1) := by decide +kernel
theorem dX1_init_5 : decode cX1_init 5 = .ok (.bipush 24, 2) := by decide +kernel
theorem dX1_init_7 : decode cX1_init 7 = .ok (.newarray .long, 2) := by decide +kernel
theorem dX1_init_9 : decode cX1_init 9 = .ok (.putfield 9, 3) := by decide +kernel
theorem dX1_init_12 : decode cX1_init 12 = .ok (.aload_n 0, 1) := by decide +kernel
theorem dX1_init_13 : decode cX1_init 13 = .ok (.bipush 24, 2) := by decide +kernel
theorem dX1_init_15 : decode cX1_init 15 = .ok (.newarray .long, 2) := by decide +kernel
theorem dX1_init_17 : decode cX1_init 17 = .ok (.putfield 15, 3) := by decide +kernel
theorem dX1_init_20 : decode cX1_init 20 = .ok (.aload_n 0, 1) := by decide +kernel
theorem dX1_init_21 : decode cX1_init 21 = .ok (.iconst 0, 1) := by decide +kernel
theorem dX1_init_22 : decode cX1_init 22 = .ok (.putfield 18, 3) := by decide +kernel
theorem dX1_init_25 : decode cX1_init 25 = .ok (.return_, 1) := by decide +kernel
set_option maxRecDepth 20000 in
theorem ggX1_copyFrom_X6_copy_ : GoodIn wsX1_copyFrom wsX6_copy_ := goodIn_r _ [7, 8, 9, 10, 11, 12, 13, 14, 15] (by decide +kernel) (by decide +kernel)
set_option maxRecDepth 20000 in
theorem gX1_copyFrom_X6_copy_ : GoodIn wsX1_copyFrom (va_wsS RX1 22 yX6_copy_ wsX6_copy_) := goodIn_app (goodIn_of _ (by decide +kernel)) ggX1_copyFrom_X6_copy_
theorem dX1_copyFrom_0 : decode cX1_copyFrom 0 = .ok (.aload_n 1, 1) := by decide +kernel
theorem dX1_copyFrom_1 : decode cX1_copyFrom 1 = .ok (.getfield 9, 3) := by decide +kernel
theorem dX1_copyFrom_4 : decode cX1_copyFrom 4 = .ok (.aload_n 0, 1) := by decide +kernel
theorem dX1_copyFrom_5 : decode cX1_copyFrom 5 = .ok (.getfield 9, 3) := by decide +kernel
theorem dX1_copyFrom_8 : decode cX1_copyFrom 8 = .ok (.invokestatic 22, 3) := by decide +kernel
theorem dX1_copyFrom_11 : decode cX1_copyFrom 11 = .ok (.aload_n 1, 1) := by decide +kernel
theorem dX1_copyFrom_12 : decode cX1_copyFrom 12 = .ok (.getfield 15, 3) := by decide +kernel
theorem dX1_copyFrom_15 : decode cX1_copyFrom 15 = .ok (.aload_n 0, 1) := by decide +kernel
theorem dX1_copyFrom_16 : decode cX1_copyFrom 16 = .ok (.getfield 15, 3) := by decide +kernel
theorem dX1_copyFrom_19 : decode cX1_copyFrom 19 = .ok (.invokestatic 22, 3) := by decide +kernel
theorem dX1_copyFrom_22 : decode cX1_copyFrom 22 = .ok (.aload_n 0, 1) := by decide +kernel
theorem dX1_copyFrom_23 : decode cX1_copyFrom 23 = .ok (.aload_n 1, 1) := by decide +kernel
theorem dX1_copyFrom_24 : decode cX1_copyFrom 24 = .ok (.getfield 18, 3) := by decide +kernel
theorem dX1_copyFrom_27 : decode cX1_copyFrom 27 = .ok (.putfield 18, 3) := by decide +kernel
theorem dX1_copyFrom_30 : decode cX1_copyFrom 30 = .ok (.return_, 1) := by decide +kernel
set_option maxRecDepth 20000 in
theorem ggX1_outlineOf_X6_at_ : GoodIn wsX1_outlineOf wsX6_at_ := goodIn_r _ [5] (by decide +kernel) (by decide +kernel)
set_option maxRecDepth 20000 in
theorem gX1_outlineOf_X6_at_ : GoodIn wsX1_outlineOf (va_wsS RX1 28 yX6_at_ wsX6_at_) := goodIn_app (goodIn_of _ (by decide +kernel)) ggX1_outlineOf_X6_at_
theorem dX1_outlineOf_0 : decode cX1_outlineOf 0 = .ok (.aload_n 0, 1) := by decide +kernel
theorem dX1_outlineOf_1 : decode cX1_outlineOf 1 = .ok (.getfield 9, 3) := by decide +kernel
theorem dX1_outlineOf_4 : decode cX1_outlineOf 4 = .ok (.iload_n 1, 1) := by decide +kernel
theorem dX1_outlineOf_5 : decode cX1_outlineOf 5 = .ok (.invokestatic 28, 3) := by decide +kernel
theorem dX1_outlineOf_8 : decode cX1_outlineOf 8 = .ok (.lreturn, 1) := by decide +kernel
set_option maxRecDepth 20000 in
theorem ggX1_wordOf_X6_at_ : GoodIn wsX1_wordOf wsX6_at_ := goodIn_r _ [5] (by decide +kernel) (by decide +kernel)
set_option maxRecDepth 20000 in
theorem gX1_wordOf_X6_at_ : GoodIn wsX1_wordOf (va_wsS RX1 28 yX6_at_ wsX6_at_) := goodIn_app (goodIn_of _ (by decide +kernel)) ggX1_wordOf_X6_at_
theorem dX1_wordOf_0 : decode cX1_wordOf 0 = .ok (.aload_n 0, 1) := by decide +kernel
theorem dX1_wordOf_1 : decode cX1_wordOf 1 = .ok (.getfield 15, 3) := by decide +kernel
theorem dX1_wordOf_4 : decode cX1_wordOf 4 = .ok (.iload_n 1, 1) := by decide +kernel
theorem dX1_wordOf_5 : decode cX1_wordOf 5 = .ok (.invokestatic 28, 3) := by decide +kernel
theorem dX1_wordOf_8 : decode cX1_wordOf 8 = .ok (.lreturn, 1) := by decide +kernel
set_option maxRecDepth 20000 in
theorem ggX1_hasRoomFor_X1_find : GoodIn wsX1_hasRoomFor wsX1_find := goodIn_r _ [6, 1, 7, 8, 9, 10, 11, 12, 13, 14] (by decide +kernel) (by decide +kernel)
set_option maxRecDepth 20000 in
theorem gX1_hasRoomFor_X1_find : GoodIn wsX1_hasRoomFor (wsV RX1 32 RX1 yX1_find wsX1_find) := goodIn_app (goodIn_of _ (by decide +kernel)) ggX1_hasRoomFor_X1_find
theorem dX1_hasRoomFor_0 : decode cX1_hasRoomFor 0 = .ok (.aload_n 0, 1) := by decide +kernel
theorem dX1_hasRoomFor_1 : decode cX1_hasRoomFor 1 = .ok (.getfield 18, 3) := by decide +kernel
theorem dX1_hasRoomFor_4 : decode cX1_hasRoomFor 4 = .ok (.bipush 24, 2) := by decide +kernel
theorem dX1_hasRoomFor_6 : decode cX1_hasRoomFor 6 = .ok (.if_icmp .ge 16, 3) := by decide +kernel
theorem dX1_hasRoomFor_9 : decode cX1_hasRoomFor 9 = .ok (.aload_n 0, 1) := by decide +kernel
theorem dX1_hasRoomFor_10 : decode cX1_hasRoomFor 10 = .ok (.lload_n 1, 1) := by decide +kernel
theorem dX1_hasRoomFor_11 : decode cX1_hasRoomFor 11 = .ok (.invokevirtual 32, 3) := by decide +kernel
theorem dX1_hasRoomFor_14 : decode cX1_hasRoomFor 14 = .ok (.iconst (-1), 1) := by decide +kernel
theorem dX1_hasRoomFor_15 : decode cX1_hasRoomFor 15 = .ok (.if_icmp .ne 7, 3) := by decide +kernel
theorem dX1_hasRoomFor_18 : decode cX1_hasRoomFor 18 = .ok (.iconst 1, 1) := by decide +kernel
theorem dX1_hasRoomFor_19 : decode cX1_hasRoomFor 19 = .ok (.goto 4, 3) := by decide +kernel
theorem dX1_hasRoomFor_22 : decode cX1_hasRoomFor 22 = .ok (.iconst 0, 1) := by decide +kernel
theorem dX1_hasRoomFor_23 : decode cX1_hasRoomFor 23 = .ok (.ireturn, 1) := by decide +kernel
set_option maxRecDepth 20000 in
theorem ggX1_add_X6_put_ : GoodIn wsX1_add wsX6_put_ := goodIn_r _ [7] (by decide +kernel) (by decide +kernel)
set_option maxRecDepth 20000 in
theorem gX1_add_X6_put_ : GoodIn wsX1_add (va_wsS RX1 36 yX6_put_ wsX6_put_) := goodIn_app (goodIn_of _ (by decide +kernel)) ggX1_add_X6_put_
theorem dX1_add_0 : decode cX1_add 0 = .ok (.aload_n 0, 1) := by decide +kernel
theorem dX1_add_1 : decode cX1_add 1 = .ok (.getfield 9, 3) := by decide +kernel
theorem dX1_add_4 : decode cX1_add 4 = .ok (.aload_n 0, 1) := by decide +kernel
theorem dX1_add_5 : decode cX1_add 5 = .ok (.getfield 18, 3) := by decide +kernel
theorem dX1_add_8 : decode cX1_add 8 = .ok (.lload_n 1, 1) := by decide +kernel
theorem dX1_add_9 : decode cX1_add 9 = .ok (.invokestatic 36, 3) := by decide +kernel
theorem dX1_add_12 : decode cX1_add 12 = .ok (.aload_n 0, 1) := by decide +kernel
theorem dX1_add_13 : decode cX1_add 13 = .ok (.getfield 15, 3) := by decide +kernel
theorem dX1_add_16 : decode cX1_add 16 = .ok (.aload_n 0, 1) := by decide +kernel
theorem dX1_add_17 : decode cX1_add 17 = .ok (.getfield 18, 3) := by decide +kernel
theorem dX1_add_20 : decode cX1_add 20 = .ok (.lload_n 3, 1) := by decide +kernel
theorem dX1_add_21 : decode cX1_add 21 = .ok (.invokestatic 36, 3) := by decide +kernel
theorem dX1_add_24 : decode cX1_add 24 = .ok (.aload_n 0, 1) := by decide +kernel
theorem dX1_add_25 : decode cX1_add 25 = .ok (.dup, 1) := by decide +kernel
theorem dX1_add_26 : decode cX1_add 26 = .ok (.getfield 18, 3) := by decide +kernel
theorem dX1_add_29 : decode cX1_add 29 = .ok (.iconst 1, 1) := by decide +kernel
theorem dX1_add_30 : decode cX1_add 30 = .ok (.iadd, 1) := by decide +kernel
theorem dX1_add_31 : decode cX1_add 31 = .ok (.putfield 18, 3) := by decide +kernel
theorem dX1_add_34 : decode cX1_add 34 = .ok (.return_, 1) := by decide +kernel
set_option maxRecDepth 20000 in
theorem ggX1_remove_X1_outlineOf : GoodIn wsX1_remove wsX1_outlineOf := goodIn_r _ [8, 2, 9, 10, 11, 12, 20, 21, 22] (by decide +kernel) (by decide +kernel)
set_option maxRecDepth 20000 in
theorem gX1_remove_X1_outlineOf : GoodIn wsX1_remove (wsV RX1 40 RX1 yX1_outlineOf wsX1_outlineOf) := goodIn_app (goodIn_of _ (by decide +kernel)) ggX1_remove_X1_outlineOf
set_option maxRecDepth 20000 in
theorem ggX1_remove_X6_put_ : GoodIn wsX1_remove wsX6_put_ := goodIn_r _ [15] (by decide +kernel) (by decide +kernel)
set_option maxRecDepth 20000 in
theorem gX1_remove_X6_put_ : GoodIn wsX1_remove (va_wsS RX1 36 yX6_put_ wsX6_put_) := goodIn_app (goodIn_of _ (by decide +kernel)) ggX1_remove_X6_put_
set_option maxRecDepth 20000 in
theorem ggX1_remove_X1_wordOf : GoodIn wsX1_remove wsX1_wordOf := goodIn_r _ [19, 3, 9, 10, 11, 12, 20, 21, 22] (by decide +kernel) (by decide +kernel)
set_option maxRecDepth 20000 in
theorem gX1_remove_X1_wordOf : GoodIn wsX1_remove (wsV RX1 44 RX1 yX1_wordOf wsX1_wordOf) := goodIn_app (goodIn_of _ (by decide +kernel)) ggX1_remove_X1_wordOf
theorem dX1_remove_0 : decode cX1_remove 0 = .ok (.iload_n 1, 1) := by decide +kernel
theorem dX1_remove_1 : decode cX1_remove 1 = .ok (.iconst 1, 1) := by decide +kernel
theorem dX1_remove_2 : decode cX1_remove 2 = .ok (.iadd, 1) := by decide +kernel
theorem dX1_remove_3 : decode cX1_remove 3 = .ok (.istore_n 2, 1) := by decide +kernel
theorem dX1_remove_4 : decode cX1_remove 4 = .ok (.iload_n 2, 1) := by decide +kernel
theorem dX1_remove_5 : decode cX1_remove 5 = .ok (.aload_n 0, 1) := by decide +kernel
theorem dX1_remove_6 : decode cX1_remove 6 = .ok (.getfield 18, 3) := by decide +kernel
theorem dX1_remove_9 : decode cX1_remove 9 = .ok (.if_icmp .ge 39, 3) := by decide +kernel
theorem dX1_remove_12 : decode cX1_remove 12 = .ok (.aload_n 0, 1) := by decide +kernel
theorem dX1_remove_13 : decode cX1_remove 13 = .ok (.getfield 9, 3) := by decide +kernel
theorem dX1_remove_16 : decode cX1_remove 16 = .ok (.iload_n 2, 1) := by decide +kernel
theorem dX1_remove_17 : decode cX1_remove 17 = .ok (.iconst 1, 1) := by decide +kernel
theorem dX1_remove_18 : decode cX1_remove 18 = .ok (.isub, 1) := by decide +kernel
theorem dX1_remove_19 : decode cX1_remove 19 = .ok (.aload_n 0, 1) := by decide +kernel
theorem dX1_remove_20 : decode cX1_remove 20 = .ok (.iload_n 2, 1) := by decide +kernel
theorem dX1_remove_21 : decode cX1_remove 21 = .ok (.invokevirtual 40, 3) := by decide +kernel
theorem dX1_remove_24 : decode cX1_remove 24 = .ok (.invokestatic 36, 3) := by decide +kernel
theorem dX1_remove_27 : decode cX1_remove 27 = .ok (.aload_n 0, 1) := by decide +kernel
theorem dX1_remove_28 : decode cX1_remove 28 = .ok (.getfield 15, 3) := by decide +kernel
theorem dX1_remove_31 : decode cX1_remove 31 = .ok (.iload_n 2, 1) := by decide +kernel
theorem dX1_remove_32 : decode cX1_remove 32 = .ok (.iconst 1, 1) := by decide +kernel
theorem dX1_remove_33 : decode cX1_remove 33 = .ok (.isub, 1) := by decide +kernel
theorem dX1_remove_34 : decode cX1_remove 34 = .ok (.aload_n 0, 1) := by decide +kernel
theorem dX1_remove_35 : decode cX1_remove 35 = .ok (.iload_n 2, 1) := by decide +kernel
theorem dX1_remove_36 : decode cX1_remove 36 = .ok (.invokevirtual 44, 3) := by decide +kernel
theorem dX1_remove_39 : decode cX1_remove 39 = .ok (.invokestatic 36, 3) := by decide +kernel
theorem dX1_remove_42 : decode cX1_remove 42 = .ok (.iinc 2 1, 3) := by decide +kernel
theorem dX1_remove_45 : decode cX1_remove 45 = .ok (.goto (-41), 3) := by decide +kernel
theorem dX1_remove_48 : decode cX1_remove 48 = .ok (.aload_n 0, 1) := by decide +kernel
theorem dX1_remove_49 : decode cX1_remove 49 = .ok (.dup, 1) := by decide +kernel
theorem dX1_remove_50 : decode cX1_remove 50 = .ok (.getfield 18, 3) := by decide +kernel
theorem dX1_remove_53 : decode cX1_remove 53 = .ok (.iconst 1, 1) := by decide +kernel
theorem dX1_remove_54 : decode cX1_remove 54 = .ok (.isub, 1) := by decide +kernel
theorem dX1_remove_55 : decode cX1_remove 55 = .ok (.putfield 18, 3) := by decide +kernel
theorem dX1_remove_58 : decode cX1_remove 58 = .ok (.return_, 1) := by decide +kernel
set_option maxRecDepth 20000 in
theorem ggX1_find_X6_at_ : GoodIn wsX1_find wsX6_at_ := goodIn_r _ [6] (by decide +kernel) (by decide +kernel)
set_option maxRecDepth 20000 in
theorem gX1_find_X6_at_ : GoodIn wsX1_find (va_wsS RX1 28 yX6_at_ wsX6_at_) := goodIn_app (goodIn_of _ (by decide +kernel)) ggX1_find_X6_at_
theorem dX1_find_0 : decode cX1_find 0 = .ok (.iconst 0, 1) := by decide +kernel
theorem dX1_find_1 : decode cX1_find 1 = .ok (.istore_n 3, 1) := by decide +kernel
theorem dX1_find_2 : decode cX1_find 2 = .ok (.iload_n 3, 1) := by decide +kernel
theorem dX1_find_3 : decode cX1_find 3 = .ok (.aload_n 0, 1) := by decide +kernel
theorem dX1_find_4 : decode cX1_find 4 = .ok (.getfield 18, 3) := by decide +kernel
theorem dX1_find_7 : decode cX1_find 7 = .ok (.if_icmp .ge 24, 3) := by decide +kernel
theorem dX1_find_10 : decode cX1_find 10 = .ok (.aload_n 0, 1) := by decide +kernel
theorem dX1_find_11 : decode cX1_find 11 = .ok (.getfield 9, 3) := by decide +kernel
theorem dX1_find_14 : decode cX1_find 14 = .ok (.iload_n 3, 1) := by decide +kernel
theorem dX1_find_15 : decode cX1_find 15 = .ok (.invokestatic 28, 3) := by decide +kernel
theorem dX1_find_18 : decode cX1_find 18 = .ok (.lload_n 1, 1) := by decide +kernel
theorem dX1_find_19 : decode cX1_find 19 = .ok (.lcmp, 1) := by decide +kernel
theorem dX1_find_20 : decode cX1_find 20 = .ok (.ifCond .ne 5, 3) := by decide +kernel
theorem dX1_find_23 : decode cX1_find 23 = .ok (.iload_n 3, 1) := by decide +kernel
theorem dX1_find_24 : decode cX1_find 24 = .ok (.ireturn, 1) := by decide +kernel
theorem dX1_find_25 : decode cX1_find 25 = .ok (.iinc 3 1, 3) := by decide +kernel
theorem dX1_find_28 : decode cX1_find 28 = .ok (.goto (-26), 3) := by decide +kernel
theorem dX1_find_31 : decode cX1_find 31 = .ok (.iconst (-1), 1) := by decide +kernel
theorem dX1_find_32 : decode cX1_find 32 = .ok (.ireturn, 1) := by decide +kernel
set_option maxRecDepth 20000 in
theorem ggX1_longestAt_X5_of : GoodIn wsX1_longestAt wsX5_of := goodIn_r _ [8, 9, 10, 11, 12, 13, 14, 7, 15] (by decide +kernel) (by decide +kernel)
set_option maxRecDepth 20000 in
theorem gX1_longestAt_X5_of : GoodIn wsX1_longestAt (va_wsS RX1 53 yX5_of wsX5_of) := goodIn_app (goodIn_of _ (by decide +kernel)) ggX1_longestAt_X5_of
set_option maxRecDepth 20000 in
theorem ggX1_longestAt_X5_beginning : GoodIn wsX1_longestAt wsX5_beginning := goodIn_r _ [18] (by decide +kernel) (by decide +kernel)
set_option maxRecDepth 20000 in
theorem gX1_longestAt_X5_beginning : GoodIn wsX1_longestAt (va_wsS RX1 59 yX5_beginning wsX5_beginning) := goodIn_app (goodIn_of _ (by decide +kernel)) ggX1_longestAt_X5_beginning
set_option maxRecDepth 20000 in
theorem ggX1_longestAt_X1_find : GoodIn wsX1_longestAt wsX1_find := goodIn_r _ [23, 24, 25, 26, 27, 11, 28, 29, 30, 31] (by decide +kernel) (by decide +kernel)
set_option maxRecDepth 20000 in
theorem gX1_longestAt_X1_find : GoodIn wsX1_longestAt (wsV RX1 32 RX1 yX1_find wsX1_find) := goodIn_app (goodIn_of _ (by decide +kernel)) ggX1_longestAt_X1_find
theorem dX1_longestAt_0 : decode cX1_longestAt 0 = .ok (.iconst 4, 1) := by decide +kernel
theorem dX1_longestAt_1 : decode cX1_longestAt 1 = .ok (.iload_n 3, 1) := by decide +kernel
theorem dX1_longestAt_2 : decode cX1_longestAt 2 = .ok (.iload_n 2, 1) := by decide +kernel
theorem dX1_longestAt_3 : decode cX1_longestAt 3 = .ok (.isub, 1) := by decide +kernel
theorem dX1_longestAt_4 : decode cX1_longestAt 4 = .ok (.invokestatic 47, 3) := by decide +kernel
theorem dX1_longestAt_7 : decode cX1_longestAt 7 = .ok (.istore 4, 2) := by decide +kernel
theorem dX1_longestAt_9 : decode cX1_longestAt 9 = .ok (.aload_n 1, 1) := by decide +kernel
theorem dX1_longestAt_10 : decode cX1_longestAt 10 = .ok (.iload_n 2, 1) := by decide +kernel
theorem dX1_longestAt_11 : decode cX1_longestAt 11 = .ok (.iload 4, 2) := by decide +kernel
theorem dX1_longestAt_13 : decode cX1_longestAt 13 = .ok (.invokestatic 53, 3) := by decide +kernel
theorem dX1_longestAt_16 : decode cX1_longestAt 16 = .ok (.lstore 5, 2) := by decide +kernel
theorem dX1_longestAt_18 : decode cX1_longestAt 18 = .ok (.iload 4, 2) := by decide +kernel
theorem dX1_longestAt_20 : decode cX1_longestAt 20 = .ok (.istore 7, 2) := by decide +kernel
theorem dX1_longestAt_22 : decode cX1_longestAt 22 = .ok (.iload 7, 2) := by decide +kernel
theorem dX1_longestAt_24 : decode cX1_longestAt 24 = .ok (.ifCond .le 31, 3) := by decide +kernel
theorem dX1_longestAt_27 : decode cX1_longestAt 27 = .ok (.aload_n 0, 1) := by decide +kernel
theorem dX1_longestAt_28 : decode cX1_longestAt 28 = .ok (.lload 5, 2) := by decide +kernel
theorem dX1_longestAt_30 : decode cX1_longestAt 30 = .ok (.iload 7, 2) := by decide +kernel
theorem dX1_longestAt_32 : decode cX1_longestAt 32 = .ok (.invokestatic 59, 3) := by decide +kernel
theorem dX1_longestAt_35 : decode cX1_longestAt 35 = .ok (.invokevirtual 32, 3) := by decide +kernel
theorem dX1_longestAt_38 : decode cX1_longestAt 38 = .ok (.istore 8, 2) := by decide +kernel
theorem dX1_longestAt_40 : decode cX1_longestAt 40 = .ok (.iload 8, 2) := by decide +kernel
theorem dX1_longestAt_42 : decode cX1_longestAt 42 = .ok (.iconst (-1), 1) := by decide +kernel
theorem dX1_longestAt_43 : decode cX1_longestAt 43 = .ok (.if_icmp .eq 6, 3) := by decide +kernel
theorem dX1_longestAt_46 : decode cX1_longestAt 46 = .ok (.iload 8, 2) := by decide +kernel
theorem dX1_longestAt_48 : decode cX1_longestAt 48 = .ok (.ireturn, 1) := by decide +kernel
theorem dX1_longestAt_49 : decode cX1_longestAt 49 = .ok (.iinc 7 (-1), 3) := by decide +kernel
theorem dX1_longestAt_52 : decode cX1_longestAt 52 = .ok (.goto (-30), 3) := by decide +kernel
theorem dX1_longestAt_55 : decode cX1_longestAt 55 = .ok (.iconst (-1), 1) := by decide +kernel
theorem dX1_longestAt_56 : decode cX1_longestAt 56 = .ok (.ireturn, 1) := by decide +kernel
set_option maxRecDepth 20000 in
theorem ggX1_clashOf_X1_outlineOf : GoodIn wsX1_clashOf wsX1_outlineOf := goodIn_r _ [5, 6, 7, 8, 9, 10, 50, 51, 52] (by decide +kernel) (by decide +kernel)
set_option maxRecDepth 20000 in
theorem gX1_clashOf_X1_outlineOf : GoodIn wsX1_clashOf (wsV RX1 40 RX1 yX1_outlineOf wsX1_outlineOf) := goodIn_app (goodIn_of _ (by decide +kernel)) ggX1_clashOf_X1_outlineOf
set_option maxRecDepth 20000 in
theorem ggX1_clashOf_X1_beginsLonger : GoodIn wsX1_clashOf wsX1_beginsLonger := goodIn_r _ [14, 15, 16, 17, 18, 19, 20, 21, 22, 1, 2, 3, 4, 5, 6, 7, 8, 9, 10, 23, 24, 25, 50, 51, 52] (by decide +kernel) (by decide +kernel)
set_option maxRecDepth 20000 in
theorem gX1_clashOf_X1_beginsLonger : GoodIn wsX1_clashOf (wsV RX1 63 RX1 yX1_beginsLonger wsX1_beginsLonger) := goodIn_app (goodIn_of _ (by decide +kernel)) ggX1_clashOf_X1_beginsLonger
set_option maxRecDepth 20000 in
theorem ggX1_clashOf_X1_isTwo : GoodIn wsX1_clashOf wsX1_isTwo := goodIn_r _ [29, 16, 17, 18, 19, 20, 21, 22, 23, 24, 25, 30, 31, 32, 4, 33, 15, 6, 7, 8, 9, 10, 34, 35, 36, 50, 51, 52] (by decide +kernel) (by decide +kernel)
set_option maxRecDepth 20000 in
theorem gX1_clashOf_X1_isTwo : GoodIn wsX1_clashOf (wsV RX1 67 RX1 yX1_isTwo wsX1_isTwo) := goodIn_app (goodIn_of _ (by decide +kernel)) ggX1_clashOf_X1_isTwo
set_option maxRecDepth 20000 in
theorem ggX1_clashOf_X1_beginsWithShorter : GoodIn wsX1_clashOf wsX1_beginsWithShorter := goodIn_r _ [40, 16, 17, 18, 19, 20, 21, 22, 23, 24, 25, 30, 31, 32, 4, 33, 15, 6, 7, 8, 9, 10, 50, 51, 52] (by decide +kernel) (by decide +kernel)
set_option maxRecDepth 20000 in
theorem gX1_clashOf_X1_beginsWithShorter : GoodIn wsX1_clashOf (wsV RX1 70 RX1 yX1_beginsWithShorter wsX1_beginsWithShorter) := goodIn_app (goodIn_of _ (by decide +kernel)) ggX1_clashOf_X1_beginsWithShorter
set_option maxRecDepth 20000 in
theorem ggX1_clashOf_X1_hasTwin : GoodIn wsX1_clashOf wsX1_hasTwin := goodIn_r _ [44, 15, 45, 46, 47, 4, 48, 49, 7, 8, 9, 10, 50, 51, 52] (by decide +kernel) (by decide +kernel)
set_option maxRecDepth 20000 in
theorem gX1_clashOf_X1_hasTwin : GoodIn wsX1_clashOf (wsV RX1 73 RX1 yX1_hasTwin wsX1_hasTwin) := goodIn_app (goodIn_of _ (by decide +kernel)) ggX1_clashOf_X1_hasTwin
theorem dX1_clashOf_0 : decode cX1_clashOf 0 = .ok (.aload_n 0, 1) := by decide +kernel
theorem dX1_clashOf_1 : decode cX1_clashOf 1 = .ok (.iload_n 1, 1) := by decide +kernel
theorem dX1_clashOf_2 : decode cX1_clashOf 2 = .ok (.invokevirtual 40, 3) := by decide +kernel
theorem dX1_clashOf_5 : decode cX1_clashOf 5 = .ok (.lstore_n 2, 1) := by decide +kernel
theorem dX1_clashOf_6 : decode cX1_clashOf 6 = .ok (.aload_n 0, 1) := by decide +kernel
theorem dX1_clashOf_7 : decode cX1_clashOf 7 = .ok (.lload_n 2, 1) := by decide +kernel
theorem dX1_clashOf_8 : decode cX1_clashOf 8 = .ok (.invokevirtual 63, 3) := by decide +kernel
theorem dX1_clashOf_11 : decode cX1_clashOf 11 = .ok (.ifCond .eq 5, 3) := by decide +kernel
theorem dX1_clashOf_14 : decode cX1_clashOf 14 = .ok (.iconst 1, 1) := by decide +kernel
theorem dX1_clashOf_15 : decode cX1_clashOf 15 = .ok (.ireturn, 1) := by decide +kernel
theorem dX1_clashOf_16 : decode cX1_clashOf 16 = .ok (.aload_n 0, 1) := by decide +kernel
theorem dX1_clashOf_17 : decode cX1_clashOf 17 = .ok (.lload_n 2, 1) := by decide +kernel
theorem dX1_clashOf_18 : decode cX1_clashOf 18 = .ok (.invokevirtual 67, 3) := by decide +kernel
theorem dX1_clashOf_21 : decode cX1_clashOf 21 = .ok (.ifCond .eq 5, 3) := by decide +kernel
theorem dX1_clashOf_24 : decode cX1_clashOf 24 = .ok (.iconst 2, 1) := by decide +kernel
theorem dX1_clashOf_25 : decode cX1_clashOf 25 = .ok (.ireturn, 1) := by decide +kernel
theorem dX1_clashOf_26 : decode cX1_clashOf 26 = .ok (.aload_n 0, 1) := by decide +kernel
theorem dX1_clashOf_27 : decode cX1_clashOf 27 = .ok (.lload_n 2, 1) := by decide +kernel
theorem dX1_clashOf_28 : decode cX1_clashOf 28 = .ok (.invokevirtual 70, 3) := by decide +kernel
theorem dX1_clashOf_31 : decode cX1_clashOf 31 = .ok (.ifCond .eq 5, 3) := by decide +kernel
theorem dX1_clashOf_34 : decode cX1_clashOf 34 = .ok (.iconst 3, 1) := by decide +kernel
theorem dX1_clashOf_35 : decode cX1_clashOf 35 = .ok (.ireturn, 1) := by decide +kernel
theorem dX1_clashOf_36 : decode cX1_clashOf 36 = .ok (.aload_n 0, 1) := by decide +kernel
theorem dX1_clashOf_37 : decode cX1_clashOf 37 = .ok (.iload_n 1, 1) := by decide +kernel
theorem dX1_clashOf_38 : decode cX1_clashOf 38 = .ok (.invokevirtual 73, 3) := by decide +kernel
theorem dX1_clashOf_41 : decode cX1_clashOf 41 = .ok (.ifCond .eq 7, 3) := by decide +kernel
theorem dX1_clashOf_44 : decode cX1_clashOf 44 = .ok (.iconst 4, 1) := by decide +kernel
theorem dX1_clashOf_45 : decode cX1_clashOf 45 = .ok (.goto 4, 3) := by decide +kernel
theorem dX1_clashOf_48 : decode cX1_clashOf 48 = .ok (.iconst 0, 1) := by decide +kernel
theorem dX1_clashOf_49 : decode cX1_clashOf 49 = .ok (.ireturn, 1) := by decide +kernel
set_option maxRecDepth 20000 in
theorem ggX1_clashes_X1_clashOf : GoodIn wsX1_clashes wsX1_clashOf := goodIn_r _ [6, 7, 8, 9, 5, 10, 11, 12, 13, 14, 15, 16, 17, 18, 19, 1, 20, 21, 22, 23, 24, 25, 26, 27, 28, 29, 30, 31, 32, 33, 34, 35, 36, 37, 38, 39, 40, 41, 42, 43, 44, 45, 46, 47, 48, 49, 50, 51, 52, 53, 54, 55, 56] (by decide +kernel) (by decide +kernel)
set_option maxRecDepth 20000 in
theorem gX1_clashes_X1_clashOf : GoodIn wsX1_clashes (wsV RX1 77 RX1 yX1_clashOf wsX1_clashOf) := goodIn_app (goodIn_of _ (by decide +kernel)) ggX1_clashes_X1_clashOf
theorem dX1_clashes_0 : decode cX1_clashes 0 = .ok (.iconst 0, 1) := by decide +kernel
theorem dX1_clashes_1 : decode cX1_clashes 1 = .ok (.istore_n 1, 1) := by decide +kernel
theorem dX1_clashes_2 : decode cX1_clashes 2 = .ok (.iconst 0, 1) := by decide +kernel
theorem dX1_clashes_3 : decode cX1_clashes 3 = .ok (.istore_n 2, 1) := by decide +kernel
theorem dX1_clashes_4 : decode cX1_clashes 4 = .ok (.iload_n 2, 1) := by decide +kernel
theorem dX1_clashes_5 : decode cX1_clashes 5 = .ok (.aload_n 0, 1) := by decide +kernel
theorem dX1_clashes_6 : decode cX1_clashes 6 = .ok (.getfield 18, 3) := by decide +kernel
theorem dX1_clashes_9 : decode cX1_clashes 9 = .ok (.if_icmp .ge 20, 3) := by decide +kernel
theorem dX1_clashes_12 : decode cX1_clashes 12 = .ok (.aload_n 0, 1) := by decide +kernel
theorem dX1_clashes_13 : decode cX1_clashes 13 = .ok (.iload_n 2, 1) := by decide +kernel
theorem dX1_clashes_14 : decode cX1_clashes 14 = .ok (.invokevirtual 77, 3) := by decide +kernel
theorem dX1_clashes_17 : decode cX1_clashes 17 = .ok (.ifCond .eq 6, 3) := by decide +kernel
theorem dX1_clashes_20 : decode cX1_clashes 20 = .ok (.iinc 1 1, 3) := by decide +kernel
theorem dX1_clashes_23 : decode cX1_clashes 23 = .ok (.iinc 2 1, 3) := by decide +kernel
theorem dX1_clashes_26 : decode cX1_clashes 26 = .ok (.goto (-22), 3) := by decide +kernel
theorem dX1_clashes_29 : decode cX1_clashes 29 = .ok (.iload_n 1, 1) := by decide +kernel
theorem dX1_clashes_30 : decode cX1_clashes 30 = .ok (.ireturn, 1) := by decide +kernel
set_option maxRecDepth 20000 in
theorem ggX1_beginsLonger_X5_length : GoodIn wsX1_beginsLonger wsX5_length := goodIn_r _ [5, 6, 7, 4, 8] (by decide +kernel) (by decide +kernel)
set_option maxRecDepth 20000 in
theorem gX1_beginsLonger_X5_length : GoodIn wsX1_beginsLonger (va_wsS RX1 81 yX5_length wsX5_length) := goodIn_app (goodIn_of _ (by decide +kernel)) ggX1_beginsLonger_X5_length
set_option maxRecDepth 20000 in
theorem ggX1_beginsLonger_X1_outlineOf : GoodIn wsX1_beginsLonger wsX1_outlineOf := goodIn_r _ [13, 14, 15, 16, 17, 18, 22, 23, 24] (by decide +kernel) (by decide +kernel)
set_option maxRecDepth 20000 in
theorem gX1_beginsLonger_X1_outlineOf : GoodIn wsX1_beginsLonger (wsV RX1 40 RX1 yX1_outlineOf wsX1_outlineOf) := goodIn_app (goodIn_of _ (by decide +kernel)) ggX1_beginsLonger_X1_outlineOf
set_option maxRecDepth 20000 in
theorem ggX1_beginsLonger_X5_beginning : GoodIn wsX1_beginsLonger wsX5_beginning := goodIn_r _ [21] (by decide +kernel) (by decide +kernel)
set_option maxRecDepth 20000 in
theorem gX1_beginsLonger_X5_beginning : GoodIn wsX1_beginsLonger (va_wsS RX1 59 yX5_beginning wsX5_beginning) := goodIn_app (goodIn_of _ (by decide +kernel)) ggX1_beginsLonger_X5_beginning
theorem dX1_beginsLonger_0 : decode cX1_beginsLonger 0 = .ok (.lload_n 1, 1) := by decide +kernel
theorem dX1_beginsLonger_1 : decode cX1_beginsLonger 1 = .ok (.invokestatic 81, 3) := by decide +kernel
theorem dX1_beginsLonger_4 : decode cX1_beginsLonger 4 = .ok (.istore_n 3, 1) := by decide +kernel
theorem dX1_beginsLonger_5 : decode cX1_beginsLonger 5 = .ok (.iconst 0, 1) := by decide +kernel
theorem dX1_beginsLonger_6 : decode cX1_beginsLonger 6 = .ok (.istore 4, 2) := by decide +kernel
theorem dX1_beginsLonger_8 : decode cX1_beginsLonger 8 = .ok (.iload 4, 2) := by decide +kernel
theorem dX1_beginsLonger_10 : decode cX1_beginsLonger 10 = .ok (.aload_n 0, 1) := by decide +kernel
theorem dX1_beginsLonger_11 : decode cX1_beginsLonger 11 = .ok (.getfield 18, 3) := by decide +kernel
theorem dX1_beginsLonger_14 : decode cX1_beginsLonger 14 = .ok (.if_icmp .ge 37, 3) := by decide +kernel
theorem dX1_beginsLonger_17 : decode cX1_beginsLonger 17 = .ok (.aload_n 0, 1) := by decide +kernel
theorem dX1_beginsLonger_18 : decode cX1_beginsLonger 18 = .ok (.iload 4, 2) := by decide +kernel
theorem dX1_beginsLonger_20 : decode cX1_beginsLonger 20 = .ok (.invokevirtual 40, 3) := by decide +kernel
theorem dX1_beginsLonger_23 : decode cX1_beginsLonger 23 = .ok (.lstore 5, 2) := by decide +kernel
theorem dX1_beginsLonger_25 : decode cX1_beginsLonger 25 = .ok (.lload 5, 2) := by decide +kernel
theorem dX1_beginsLonger_27 : decode cX1_beginsLonger 27 = .ok (.lload_n 1, 1) := by decide +kernel
theorem dX1_beginsLonger_28 : decode cX1_beginsLonger 28 = .ok (.lcmp, 1) := by decide +kernel
theorem dX1_beginsLonger_29 : decode cX1_beginsLonger 29 = .ok (.ifCond .eq 16, 3) := by decide +kernel
theorem dX1_beginsLonger_32 : decode cX1_beginsLonger 32 = .ok (.lload 5, 2) := by decide +kernel
theorem dX1_beginsLonger_34 : decode cX1_beginsLonger 34 = .ok (.iload_n 3, 1) := by decide +kernel
theorem dX1_beginsLonger_35 : decode cX1_beginsLonger 35 = .ok (.invokestatic 59, 3) := by decide +kernel
theorem dX1_beginsLonger_38 : decode cX1_beginsLonger 38 = .ok (.lload_n 1, 1) := by decide +kernel
theorem dX1_beginsLonger_39 : decode cX1_beginsLonger 39 = .ok (.lcmp, 1) := by decide +kernel
theorem dX1_beginsLonger_40 : decode cX1_beginsLonger 40 = .ok (.ifCond .ne 5, 3) := by decide +kernel
theorem dX1_beginsLonger_43 : decode cX1_beginsLonger 43 = .ok (.iconst 1, 1) := by decide +kernel
theorem dX1_beginsLonger_44 : decode cX1_beginsLonger 44 = .ok (.ireturn, 1) := by decide +kernel
theorem dX1_beginsLonger_45 : decode cX1_beginsLonger 45 = .ok (.iinc 4 1, 3) := by decide +kernel
theorem dX1_beginsLonger_48 : decode cX1_beginsLonger 48 = .ok (.goto (-40), 3) := by decide +kernel
theorem dX1_beginsLonger_51 : decode cX1_beginsLonger 51 = .ok (.iconst 0, 1) := by decide +kernel
theorem dX1_beginsLonger_52 : decode cX1_beginsLonger 52 = .ok (.ireturn, 1) := by decide +kernel
set_option maxRecDepth 20000 in
theorem ggX1_isTwo_X5_length : GoodIn wsX1_isTwo wsX5_length := goodIn_r _ [4, 5, 6, 3, 7] (by decide +kernel) (by decide +kernel)
set_option maxRecDepth 20000 in
theorem gX1_isTwo_X5_length : GoodIn wsX1_isTwo (va_wsS RX1 81 yX5_length wsX5_length) := goodIn_app (goodIn_of _ (by decide +kernel)) ggX1_isTwo_X5_length
set_option maxRecDepth 20000 in
theorem ggX1_isTwo_X5_beginning : GoodIn wsX1_isTwo wsX5_beginning := goodIn_r _ [10] (by decide +kernel) (by decide +kernel)
set_option maxRecDepth 20000 in
theorem gX1_isTwo_X5_beginning : GoodIn wsX1_isTwo (va_wsS RX1 59 yX5_beginning wsX5_beginning) := goodIn_app (goodIn_of _ (by decide +kernel)) ggX1_isTwo_X5_beginning
set_option maxRecDepth 20000 in
theorem ggX1_isTwo_X1_find : GoodIn wsX1_isTwo wsX1_find := goodIn_r _ [15, 16, 17, 18, 19, 20, 21, 25, 26, 27] (by decide +kernel) (by decide +kernel)
set_option maxRecDepth 20000 in
theorem gX1_isTwo_X1_find : GoodIn wsX1_isTwo (wsV RX1 32 RX1 yX1_find wsX1_find) := goodIn_app (goodIn_of _ (by decide +kernel)) ggX1_isTwo_X1_find
set_option maxRecDepth 20000 in
theorem ggX1_isTwo_X5_rest : GoodIn wsX1_isTwo wsX5_rest := goodIn_r _ [24] (by decide +kernel) (by decide +kernel)
set_option maxRecDepth 20000 in
theorem gX1_isTwo_X5_rest : GoodIn wsX1_isTwo (va_wsS RX1 84 yX5_rest wsX5_rest) := goodIn_app (goodIn_of _ (by decide +kernel)) ggX1_isTwo_X5_rest
theorem dX1_isTwo_0 : decode cX1_isTwo 0 = .ok (.lload_n 1, 1) := by decide +kernel
theorem dX1_isTwo_1 : decode cX1_isTwo 1 = .ok (.invokestatic 81, 3) := by decide +kernel
theorem dX1_isTwo_4 : decode cX1_isTwo 4 = .ok (.istore_n 3, 1) := by decide +kernel
theorem dX1_isTwo_5 : decode cX1_isTwo 5 = .ok (.iconst 1, 1) := by decide +kernel
theorem dX1_isTwo_6 : decode cX1_isTwo 6 = .ok (.istore 4, 2) := by decide +kernel
theorem dX1_isTwo_8 : decode cX1_isTwo 8 = .ok (.iload 4, 2) := by decide +kernel
theorem dX1_isTwo_10 : decode cX1_isTwo 10 = .ok (.iload_n 3, 1) := by decide +kernel
theorem dX1_isTwo_11 : decode cX1_isTwo 11 = .ok (.if_icmp .ge 39, 3) := by decide +kernel
theorem dX1_isTwo_14 : decode cX1_isTwo 14 = .ok (.aload_n 0, 1) := by decide +kernel
theorem dX1_isTwo_15 : decode cX1_isTwo 15 = .ok (.lload_n 1, 1) := by decide +kernel
theorem dX1_isTwo_16 : decode cX1_isTwo 16 = .ok (.iload 4, 2) := by decide +kernel
theorem dX1_isTwo_18 : decode cX1_isTwo 18 = .ok (.invokestatic 59, 3) := by decide +kernel
theorem dX1_isTwo_21 : decode cX1_isTwo 21 = .ok (.invokevirtual 32, 3) := by decide +kernel
theorem dX1_isTwo_24 : decode cX1_isTwo 24 = .ok (.iconst (-1), 1) := by decide +kernel
theorem dX1_isTwo_25 : decode cX1_isTwo 25 = .ok (.if_icmp .eq 19, 3) := by decide +kernel
theorem dX1_isTwo_28 : decode cX1_isTwo 28 = .ok (.aload_n 0, 1) := by decide +kernel
theorem dX1_isTwo_29 : decode cX1_isTwo 29 = .ok (.lload_n 1, 1) := by decide +kernel
theorem dX1_isTwo_30 : decode cX1_isTwo 30 = .ok (.iload 4, 2) := by decide +kernel
theorem dX1_isTwo_32 : decode cX1_isTwo 32 = .ok (.invokestatic 84, 3) := by decide +kernel
theorem dX1_isTwo_35 : decode cX1_isTwo 35 = .ok (.invokevirtual 32, 3) := by decide +kernel
theorem dX1_isTwo_38 : decode cX1_isTwo 38 = .ok (.iconst (-1), 1) := by decide +kernel
theorem dX1_isTwo_39 : decode cX1_isTwo 39 = .ok (.if_icmp .eq 5, 3) := by decide +kernel
theorem dX1_isTwo_42 : decode cX1_isTwo 42 = .ok (.iconst 1, 1) := by decide +kernel
theorem dX1_isTwo_43 : decode cX1_isTwo 43 = .ok (.ireturn, 1) := by decide +kernel
theorem dX1_isTwo_44 : decode cX1_isTwo 44 = .ok (.iinc 4 1, 3) := by decide +kernel
theorem dX1_isTwo_47 : decode cX1_isTwo 47 = .ok (.goto (-39), 3) := by decide +kernel
theorem dX1_isTwo_50 : decode cX1_isTwo 50 = .ok (.iconst 0, 1) := by decide +kernel
theorem dX1_isTwo_51 : decode cX1_isTwo 51 = .ok (.ireturn, 1) := by decide +kernel
set_option maxRecDepth 20000 in
theorem ggX1_beginsWithShorter_X5_length : GoodIn wsX1_beginsWithShorter wsX5_length := goodIn_r _ [4, 5, 6, 3, 7] (by decide +kernel) (by decide +kernel)
set_option maxRecDepth 20000 in
theorem gX1_beginsWithShorter_X5_length : GoodIn wsX1_beginsWithShorter (va_wsS RX1 81 yX5_length wsX5_length) := goodIn_app (goodIn_of _ (by decide +kernel)) ggX1_beginsWithShorter_X5_length
set_option maxRecDepth 20000 in
theorem ggX1_beginsWithShorter_X5_beginning : GoodIn wsX1_beginsWithShorter wsX5_beginning := goodIn_r _ [10] (by decide +kernel) (by decide +kernel)
set_option maxRecDepth 20000 in
theorem gX1_beginsWithShorter_X5_beginning : GoodIn wsX1_beginsWithShorter (va_wsS RX1 59 yX5_beginning wsX5_beginning) := goodIn_app (goodIn_of _ (by decide +kernel)) ggX1_beginsWithShorter_X5_beginning
set_option maxRecDepth 20000 in
theorem ggX1_beginsWithShorter_X1_find : GoodIn wsX1_beginsWithShorter wsX1_find := goodIn_r _ [15, 16, 17, 18, 19, 20, 21, 22, 23, 24] (by decide +kernel) (by decide +kernel)
set_option maxRecDepth 20000 in
theorem gX1_beginsWithShorter_X1_find : GoodIn wsX1_beginsWithShorter (wsV RX1 32 RX1 yX1_find wsX1_find) := goodIn_app (goodIn_of _ (by decide +kernel)) ggX1_beginsWithShorter_X1_find
theorem dX1_beginsWithShorter_0 : decode cX1_beginsWithShorter 0 = .ok (.lload_n 1, 1) := by decide +kernel
theorem dX1_beginsWithShorter_1 : decode cX1_beginsWithShorter 1 = .ok (.invokestatic 81, 3) := by decide +kernel
theorem dX1_beginsWithShorter_4 : decode cX1_beginsWithShorter 4 = .ok (.istore_n 3, 1) := by decide +kernel
theorem dX1_beginsWithShorter_5 : decode cX1_beginsWithShorter 5 = .ok (.iconst 1, 1) := by decide +kernel
theorem dX1_beginsWithShorter_6 : decode cX1_beginsWithShorter 6 = .ok (.istore 4, 2) := by decide +kernel
theorem dX1_beginsWithShorter_8 : decode cX1_beginsWithShorter 8 = .ok (.iload 4, 2) := by decide +kernel
theorem dX1_beginsWithShorter_10 : decode cX1_beginsWithShorter 10 = .ok (.iload_n 3, 1) := by decide +kernel
theorem dX1_beginsWithShorter_11 : decode cX1_beginsWithShorter 11 = .ok (.if_icmp .ge 25, 3) := by decide +kernel
theorem dX1_beginsWithShorter_14 : decode cX1_beginsWithShorter 14 = .ok (.aload_n 0, 1) := by decide +kernel
theorem dX1_beginsWithShorter_15 : decode cX1_beginsWithShorter 15 = .ok (.lload_n 1, 1) := by decide +kernel
theorem dX1_beginsWithShorter_16 : decode cX1_beginsWithShorter 16 = .ok (.iload 4, 2) := by decide +kernel
theorem dX1_beginsWithShorter_18 : decode cX1_beginsWithShorter 18 = .ok (.invokestatic 59, 3) := by decide +kernel
theorem dX1_beginsWithShorter_21 : decode cX1_beginsWithShorter 21 = .ok (.invokevirtual 32, 3) := by decide +kernel
theorem dX1_beginsWithShorter_24 : decode cX1_beginsWithShorter 24 = .ok (.iconst (-1), 1) := by decide +kernel
theorem dX1_beginsWithShorter_25 : decode cX1_beginsWithShorter 25 = .ok (.if_icmp .eq 5, 3) := by decide +kernel
theorem dX1_beginsWithShorter_28 : decode cX1_beginsWithShorter 28 = .ok (.iconst 1, 1) := by decide +kernel
theorem dX1_beginsWithShorter_29 : decode cX1_beginsWithShorter 29 = .ok (.ireturn, 1) := by decide +kernel
theorem dX1_beginsWithShorter_30 : decode cX1_beginsWithShorter 30 = .ok (.iinc 4 1, 3) := by decide +kernel
theorem dX1_beginsWithShorter_33 : decode cX1_beginsWithShorter 33 = .ok (.goto (-25), 3) := by decide +kernel
theorem dX1_beginsWithShorter_36 : decode cX1_beginsWithShorter 36 = .ok (.iconst 0, 1) := by decide +kernel
theorem dX1_beginsWithShorter_37 : decode cX1_beginsWithShorter 37 = .ok (.ireturn, 1) := by decide +kernel
set_option maxRecDepth 20000 in
theorem ggX1_hasTwin_X1_wordOf : GoodIn wsX1_hasTwin wsX1_wordOf := goodIn_r _ [6, 7, 8, 9, 10, 11, 12, 13, 14] (by decide +kernel) (by decide +kernel)
set_option maxRecDepth 20000 in
theorem gX1_hasTwin_X1_wordOf : GoodIn wsX1_hasTwin (wsV RX1 44 RX1 yX1_wordOf wsX1_wordOf) := goodIn_app (goodIn_of _ (by decide +kernel)) ggX1_hasTwin_X1_wordOf
theorem dX1_hasTwin_0 : decode cX1_hasTwin 0 = .ok (.iconst 0, 1) := by decide +kernel
theorem dX1_hasTwin_1 : decode cX1_hasTwin 1 = .ok (.istore_n 2, 1) := by decide +kernel
theorem dX1_hasTwin_2 : decode cX1_hasTwin 2 = .ok (.iload_n 2, 1) := by decide +kernel
theorem dX1_hasTwin_3 : decode cX1_hasTwin 3 = .ok (.aload_n 0, 1) := by decide +kernel
theorem dX1_hasTwin_4 : decode cX1_hasTwin 4 = .ok (.getfield 18, 3) := by decide +kernel
theorem dX1_hasTwin_7 : decode cX1_hasTwin 7 = .ok (.if_icmp .ge 30, 3) := by decide +kernel
theorem dX1_hasTwin_10 : decode cX1_hasTwin 10 = .ok (.iload_n 2, 1) := by decide +kernel
theorem dX1_hasTwin_11 : decode cX1_hasTwin 11 = .ok (.iload_n 1, 1) := by decide +kernel
theorem dX1_hasTwin_12 : decode cX1_hasTwin 12 = .ok (.if_icmp .eq 19, 3) := by decide +kernel
theorem dX1_hasTwin_15 : decode cX1_hasTwin 15 = .ok (.aload_n 0, 1) := by decide +kernel
theorem dX1_hasTwin_16 : decode cX1_hasTwin 16 = .ok (.iload_n 2, 1) := by decide +kernel
theorem dX1_hasTwin_17 : decode cX1_hasTwin 17 = .ok (.invokevirtual 44, 3) := by decide +kernel
theorem dX1_hasTwin_20 : decode cX1_hasTwin 20 = .ok (.aload_n 0, 1) := by decide +kernel
theorem dX1_hasTwin_21 : decode cX1_hasTwin 21 = .ok (.iload_n 1, 1) := by decide +kernel
theorem dX1_hasTwin_22 : decode cX1_hasTwin 22 = .ok (.invokevirtual 44, 3) := by decide +kernel
theorem dX1_hasTwin_25 : decode cX1_hasTwin 25 = .ok (.lcmp, 1) := by decide +kernel
theorem dX1_hasTwin_26 : decode cX1_hasTwin 26 = .ok (.ifCond .ne 5, 3) := by decide +kernel
theorem dX1_hasTwin_29 : decode cX1_hasTwin 29 = .ok (.iconst 1, 1) := by decide +kernel
theorem dX1_hasTwin_30 : decode cX1_hasTwin 30 = .ok (.ireturn, 1) := by decide +kernel
theorem dX1_hasTwin_31 : decode cX1_hasTwin 31 = .ok (.iinc 2 1, 3) := by decide +kernel
theorem dX1_hasTwin_34 : decode cX1_hasTwin 34 = .ok (.goto (-32), 3) := by decide +kernel
theorem dX1_hasTwin_37 : decode cX1_hasTwin 37 = .ok (.iconst 0, 1) := by decide +kernel
theorem dX1_hasTwin_38 : decode cX1_hasTwin 38 = .ok (.ireturn, 1) := by decide +kernel
set_option maxRecDepth 20000 in
theorem ggX1_shortestLike_X1_wordOf : GoodIn wsX1_shortestLike wsX1_wordOf := goodIn_r _ [6, 7, 8, 9, 10, 11, 35, 36, 37] (by decide +kernel) (by decide +kernel)
set_option maxRecDepth 20000 in
theorem gX1_shortestLike_X1_wordOf : GoodIn wsX1_shortestLike (wsV RX1 44 RX1 yX1_wordOf wsX1_wordOf) := goodIn_app (goodIn_of _ (by decide +kernel)) ggX1_shortestLike_X1_wordOf
set_option maxRecDepth 20000 in
theorem ggX1_shortestLike_X1_isShorter : GoodIn wsX1_shortestLike wsX1_isShorter := goodIn_r _ [15, 16, 17, 18, 5, 19, 20, 8, 9, 10, 11, 21, 22, 23, 24, 25, 26, 27, 28, 29, 30, 31, 32, 33, 34, 35, 36, 37] (by decide +kernel) (by decide +kernel)
set_option maxRecDepth 20000 in
theorem gX1_shortestLike_X1_isShorter : GoodIn wsX1_shortestLike (wsV RX1 87 RX1 yX1_isShorter wsX1_isShorter) := goodIn_app (goodIn_of _ (by decide +kernel)) ggX1_shortestLike_X1_isShorter
theorem dX1_shortestLike_0 : decode cX1_shortestLike 0 = .ok (.iconst (-1), 1) := by decide +kernel
theorem dX1_shortestLike_1 : decode cX1_shortestLike 1 = .ok (.istore_n 2, 1) := by decide +kernel
theorem dX1_shortestLike_2 : decode cX1_shortestLike 2 = .ok (.iconst 0, 1) := by decide +kernel
theorem dX1_shortestLike_3 : decode cX1_shortestLike 3 = .ok (.istore_n 3, 1) := by decide +kernel
theorem dX1_shortestLike_4 : decode cX1_shortestLike 4 = .ok (.iload_n 3, 1) := by decide +kernel
theorem dX1_shortestLike_5 : decode cX1_shortestLike 5 = .ok (.aload_n 0, 1) := by decide +kernel
theorem dX1_shortestLike_6 : decode cX1_shortestLike 6 = .ok (.getfield 18, 3) := by decide +kernel
theorem dX1_shortestLike_9 : decode cX1_shortestLike 9 = .ok (.if_icmp .ge 39, 3) := by decide +kernel
theorem dX1_shortestLike_12 : decode cX1_shortestLike 12 = .ok (.aload_n 0, 1) := by decide +kernel
theorem dX1_shortestLike_13 : decode cX1_shortestLike 13 = .ok (.iload_n 3, 1) := by decide +kernel
theorem dX1_shortestLike_14 : decode cX1_shortestLike 14 = .ok (.invokevirtual 44, 3) := by decide +kernel
theorem dX1_shortestLike_17 : decode cX1_shortestLike 17 = .ok (.aload_n 0, 1) := by decide +kernel
theorem dX1_shortestLike_18 : decode cX1_shortestLike 18 = .ok (.iload_n 1, 1) := by decide +kernel
theorem dX1_shortestLike_19 : decode cX1_shortestLike 19 = .ok (.invokevirtual 44, 3) := by decide +kernel
theorem dX1_shortestLike_22 : decode cX1_shortestLike 22 = .ok (.lcmp, 1) := by decide +kernel
theorem dX1_shortestLike_23 : decode cX1_shortestLike 23 = .ok (.ifCond .ne 19, 3) := by decide +kernel
theorem dX1_shortestLike_26 : decode cX1_shortestLike 26 = .ok (.iload_n 2, 1) := by decide +kernel
theorem dX1_shortestLike_27 : decode cX1_shortestLike 27 = .ok (.iconst (-1), 1) := by decide +kernel
theorem dX1_shortestLike_28 : decode cX1_shortestLike 28 = .ok (.if_icmp .eq 12, 3) := by decide +kernel
theorem dX1_shortestLike_31 : decode cX1_shortestLike 31 = .ok (.aload_n 0, 1) := by decide +kernel
theorem dX1_shortestLike_32 : decode cX1_shortestLike 32 = .ok (.iload_n 3, 1) := by decide +kernel
theorem dX1_shortestLike_33 : decode cX1_shortestLike 33 = .ok (.iload_n 2, 1) := by decide +kernel
theorem dX1_shortestLike_34 : decode cX1_shortestLike 34 = .ok (.invokevirtual 87, 3) := by decide +kernel
theorem dX1_shortestLike_37 : decode cX1_shortestLike 37 = .ok (.ifCond .eq 5, 3) := by decide +kernel
theorem dX1_shortestLike_40 : decode cX1_shortestLike 40 = .ok (.iload_n 3, 1) := by decide +kernel
theorem dX1_shortestLike_41 : decode cX1_shortestLike 41 = .ok (.istore_n 2, 1) := by decide +kernel
theorem dX1_shortestLike_42 : decode cX1_shortestLike 42 = .ok (.iinc 3 1, 3) := by decide +kernel
theorem dX1_shortestLike_45 : decode cX1_shortestLike 45 = .ok (.goto (-41), 3) := by decide +kernel
theorem dX1_shortestLike_48 : decode cX1_shortestLike 48 = .ok (.iload_n 2, 1) := by decide +kernel
theorem dX1_shortestLike_49 : decode cX1_shortestLike 49 = .ok (.ireturn, 1) := by decide +kernel
set_option maxRecDepth 20000 in
theorem ggX1_isShorter_X1_outlineOf : GoodIn wsX1_isShorter wsX1_outlineOf := goodIn_r _ [5, 6, 7, 8, 9, 10, 25, 26, 27] (by decide +kernel) (by decide +kernel)
set_option maxRecDepth 20000 in
theorem gX1_isShorter_X1_outlineOf : GoodIn wsX1_isShorter (wsV RX1 40 RX1 yX1_outlineOf wsX1_outlineOf) := goodIn_app (goodIn_of _ (by decide +kernel)) ggX1_isShorter_X1_outlineOf
set_option maxRecDepth 20000 in
theorem ggX1_isShorter_X5_length : GoodIn wsX1_isShorter wsX5_length := goodIn_r _ [14, 15, 16, 13, 17] (by decide +kernel) (by decide +kernel)
set_option maxRecDepth 20000 in
theorem gX1_isShorter_X5_length : GoodIn wsX1_isShorter (va_wsS RX1 81 yX5_length wsX5_length) := goodIn_app (goodIn_of _ (by decide +kernel)) ggX1_isShorter_X5_length
set_option maxRecDepth 20000 in
theorem ggX1_isShorter_J13_bitCount_95d88 : GoodIn wsX1_isShorter wsJ13_bitCount_95d88 := goodIn_r _ [21, 22, 23, 24] (by decide +kernel) (by decide +kernel)
set_option maxRecDepth 20000 in
theorem gX1_isShorter_J13_bitCount_95d88 : GoodIn wsX1_isShorter (va_wsS RX1 91 yJ13_bitCount_95d88 wsJ13_bitCount_95d88) := goodIn_app (goodIn_of _ (by decide +kernel)) ggX1_isShorter_J13_bitCount_95d88
theorem dX1_isShorter_0 : decode cX1_isShorter 0 = .ok (.aload_n 0, 1) := by decide +kernel
theorem dX1_isShorter_1 : decode cX1_isShorter 1 = .ok (.iload_n 1, 1) := by decide +kernel
theorem dX1_isShorter_2 : decode cX1_isShorter 2 = .ok (.invokevirtual 40, 3) := by decide +kernel
theorem dX1_isShorter_5 : decode cX1_isShorter 5 = .ok (.invokestatic 81, 3) := by decide +kernel
theorem dX1_isShorter_8 : decode cX1_isShorter 8 = .ok (.istore_n 3, 1) := by decide +kernel
theorem dX1_isShorter_9 : decode cX1_isShorter 9 = .ok (.aload_n 0, 1) := by decide +kernel
theorem dX1_isShorter_10 : decode cX1_isShorter 10 = .ok (.iload_n 2, 1) := by decide +kernel
theorem dX1_isShorter_11 : decode cX1_isShorter 11 = .ok (.invokevirtual 40, 3) := by decide +kernel
theorem dX1_isShorter_14 : decode cX1_isShorter 14 = .ok (.invokestatic 81, 3) := by decide +kernel
theorem dX1_isShorter_17 : decode cX1_isShorter 17 = .ok (.istore 4, 2) := by decide +kernel
theorem dX1_isShorter_19 : decode cX1_isShorter 19 = .ok (.iload_n 3, 1) := by decide +kernel
theorem dX1_isShorter_20 : decode cX1_isShorter 20 = .ok (.iload 4, 2) := by decide +kernel
theorem dX1_isShorter_22 : decode cX1_isShorter 22 = .ok (.if_icmp .eq 15, 3) := by decide +kernel
theorem dX1_isShorter_25 : decode cX1_isShorter 25 = .ok (.iload_n 3, 1) := by decide +kernel
theorem dX1_isShorter_26 : decode cX1_isShorter 26 = .ok (.iload 4, 2) := by decide +kernel
theorem dX1_isShorter_28 : decode cX1_isShorter 28 = .ok (.if_icmp .ge 7, 3) := by decide +kernel
theorem dX1_isShorter_31 : decode cX1_isShorter 31 = .ok (.iconst 1, 1) := by decide +kernel
theorem dX1_isShorter_32 : decode cX1_isShorter 32 = .ok (.goto 4, 3) := by decide +kernel
theorem dX1_isShorter_35 : decode cX1_isShorter 35 = .ok (.iconst 0, 1) := by decide +kernel
theorem dX1_isShorter_36 : decode cX1_isShorter 36 = .ok (.ireturn, 1) := by decide +kernel
theorem dX1_isShorter_37 : decode cX1_isShorter 37 = .ok (.aload_n 0, 1) := by decide +kernel
theorem dX1_isShorter_38 : decode cX1_isShorter 38 = .ok (.iload_n 1, 1) := by decide +kernel
theorem dX1_isShorter_39 : decode cX1_isShorter 39 = .ok (.invokevirtual 40, 3) := by decide +kernel
theorem dX1_isShorter_42 : decode cX1_isShorter 42 = .ok (.invokestatic 91, 3) := by decide +kernel
theorem dX1_isShorter_45 : decode cX1_isShorter 45 = .ok (.aload_n 0, 1) := by decide +kernel
theorem dX1_isShorter_46 : decode cX1_isShorter 46 = .ok (.iload_n 2, 1) := by decide +kernel
theorem dX1_isShorter_47 : decode cX1_isShorter 47 = .ok (.invokevirtual 40, 3) := by decide +kernel
theorem dX1_isShorter_50 : decode cX1_isShorter 50 = .ok (.invokestatic 91, 3) := by decide +kernel
theorem dX1_isShorter_53 : decode cX1_isShorter 53 = .ok (.if_icmp .ge 7, 3) := by decide +kernel
theorem dX1_isShorter_56 : decode cX1_isShorter 56 = .ok (.iconst 1, 1) := by decide +kernel
theorem dX1_isShorter_57 : decode cX1_isShorter 57 = .ok (.goto 4, 3) := by decide +kernel
theorem dX1_isShorter_60 : decode cX1_isShorter 60 = .ok (.iconst 0, 1) := by decide +kernel
theorem dX1_isShorter_61 : decode cX1_isShorter 61 = .ok (.ireturn, 1) := by decide +kernel
set_option maxRecDepth 20000 in
theorem ggX2_init_X8_init : GoodIn wsX2_init wsX8_init := goodIn_r _ [10, 11, 2, 3, 12, 13, 14, 15, 16, 17, 18, 19, 20, 21, 22, 23, 24, 25, 26, 27, 28, 29, 30, 31, 32, 33, 34, 35, 36, 37, 38, 39, 44, 45, 46, 42, 43, 47, 48, 49, 50, 51, 52, 53, 54, 55] (by decide +kernel) (by decide +kernel)
set_option maxRecDepth 20000 in
theorem gX2_init_X8_init_n21 : GoodIn wsX2_init (wsX8_init) := ggX2_init_X8_init
theorem dX2_init_0 : decode cX2_init 0 = .ok (.aload_n 0, 1) := by decide +kernel
theorem dX2_init_1 : decode cX2_init 1 = .ok (.invokespecial 3, 3) := by decide +kernel
theorem dX2_init_4 : decode cX2_init 4 = .ok (.aload_n 0, 1) := by decide +kernel
theorem dX2_init_5 : decode cX2_init 5 = .ok (.bipush 8, 2) := by decide +kernel
theorem dX2_init_7 : decode cX2_init 7 = .ok (.anewarray 9, 3) := by decide +kernel
theorem dX2_init_10 : decode cX2_init 10 = .ok (.putfield 11, 3) := by decide +kernel
theorem dX2_init_13 : decode cX2_init 13 = .ok (.aload_n 0, 1) := by decide +kernel
theorem dX2_init_14 : decode cX2_init 14 = .ok (.iconst 0, 1) := by decide +kernel
theorem dX2_init_15 : decode cX2_init 15 = .ok (.putfield 17, 3) := by decide +kernel
theorem dX2_init_18 : decode cX2_init 18 = .ok (.iconst 0, 1) := by decide +kernel
theorem dX2_init_19 : decode cX2_init 19 = .ok (.istore_n 1, 1) := by decide +kernel
theorem dX2_init_20 : decode cX2_init 20 = .ok (.iload_n 1, 1) := by decide +kernel
theorem dX2_init_21 : decode cX2_init 21 = .ok (.aload_n 0, 1) := by decide +kernel
theorem dX2_init_22 : decode cX2_init 22 = .ok (.getfield 11, 3) := by decide +kernel
theorem dX2_init_25 : decode cX2_init 25 = .ok (.arraylength, 1) := by decide +kernel
theorem dX2_init_26 : decode cX2_init 26 = .ok (.if_icmp .ge 22, 3) := by decide +kernel
theorem dX2_init_29 : decode cX2_init 29 = .ok (.aload_n 0, 1) := by decide +kernel
theorem dX2_init_30 : decode cX2_init 30 = .ok (.getfield 11, 3) := by decide +kernel
theorem dX2_init_33 : decode cX2_init 33 = .ok (.iload_n 1, 1) := by decide +kernel
theorem dX2_init_34 : decode cX2_init 34 = .ok (.new 9, 3) := by decide +kernel
theorem dX2_init_37 : decode cX2_init 37 = .ok (.dup, 1) := by decide +kernel
theorem dX2_init_38 : decode cX2_init 38 = .ok (.invokespecial 21, 3) := by decide +kernel
theorem dX2_init_41 : decode cX2_init 41 = .ok (.aastore, 1) := by decide +kernel
theorem dX2_init_42 : decode cX2_init 42 = .ok (.iinc 1 1, 3) := by decide +kernel
theorem dX2_init_45 : decode cX2_init 45 = .ok (.goto (-25), 3) := by decide +kernel
theorem dX2_init_48 : decode cX2_init 48 = .ok (.return_, 1) := by decide +kernel
set_option maxRecDepth 20000 in
theorem ggX2_push_X2_dropOldest : GoodIn wsX2_push wsX2_dropOldest := goodIn_r _ [7, 2, 1, 8, 9, 10, 6, 11, 57, 58] (by decide +kernel) (by decide +kernel)
set_option maxRecDepth 20000 in
theorem gX2_push_X2_dropOldest : GoodIn wsX2_push (wsV RX2 22 RX2 yX2_dropOldest wsX2_dropOldest) := goodIn_app (goodIn_of _ (by decide +kernel)) ggX2_push_X2_dropOldest
set_option maxRecDepth 20000 in
theorem ggX2_push_X2_stateAt : GoodIn wsX2_push wsX2_stateAt := goodIn_r _ [11, 2, 57, 58] (by decide +kernel) (by decide +kernel)
set_option maxRecDepth 20000 in
theorem gX2_push_X2_stateAt : GoodIn wsX2_push (wsV RX2 25 RX2 yX2_stateAt wsX2_stateAt) := goodIn_app (goodIn_of _ (by decide +kernel)) ggX2_push_X2_stateAt
set_option maxRecDepth 20000 in
theorem ggX2_push_X8_copyFrom : GoodIn wsX2_push wsX8_copyFrom := goodIn_r _ [16, 17, 18, 19, 20, 21, 22, 23, 24, 25, 26, 27, 28, 29, 30, 31, 32, 33, 34, 35, 36, 37, 38, 39, 40, 41, 42, 43, 44, 45, 46, 47, 48, 49, 50, 51, 52, 53, 54, 55, 56, 59, 60, 61, 62, 63, 64, 65, 66, 67, 68, 69, 70, 71, 72] (by decide +kernel) (by decide +kernel)
set_option maxRecDepth 20000 in
theorem gX2_push_X8_copyFrom : GoodIn wsX2_push (wsV RX2 29 RX8 yX8_copyFrom wsX8_copyFrom) := goodIn_app (goodIn_of _ (by decide +kernel)) ggX2_push_X8_copyFrom
theorem dX2_push_0 : decode cX2_push 0 = .ok (.aload_n 0, 1) := by decide +kernel
theorem dX2_push_1 : decode cX2_push 1 = .ok (.getfield 17, 3) := by decide +kernel
theorem dX2_push_4 : decode cX2_push 4 = .ok (.aload_n 0, 1) := by decide +kernel
theorem dX2_push_5 : decode cX2_push 5 = .ok (.getfield 11, 3) := by decide +kernel
theorem dX2_push_8 : decode cX2_push 8 = .ok (.arraylength, 1) := by decide +kernel
theorem dX2_push_9 : decode cX2_push 9 = .ok (.if_icmp .lt 7, 3) := by decide +kernel
theorem dX2_push_12 : decode cX2_push 12 = .ok (.aload_n 0, 1) := by decide +kernel
theorem dX2_push_13 : decode cX2_push 13 = .ok (.invokevirtual 22, 3) := by decide +kernel
theorem dX2_push_16 : decode cX2_push 16 = .ok (.aload_n 0, 1) := by decide +kernel
theorem dX2_push_17 : decode cX2_push 17 = .ok (.aload_n 0, 1) := by decide +kernel
theorem dX2_push_18 : decode cX2_push 18 = .ok (.getfield 17, 3) := by decide +kernel
theorem dX2_push_21 : decode cX2_push 21 = .ok (.invokevirtual 25, 3) := by decide +kernel
theorem dX2_push_24 : decode cX2_push 24 = .ok (.astore_n 2, 1) := by decide +kernel
theorem dX2_push_25 : decode cX2_push 25 = .ok (.aload_n 2, 1) := by decide +kernel
theorem dX2_push_26 : decode cX2_push 26 = .ok (.ifnull 18, 3) := by decide +kernel
theorem dX2_push_29 : decode cX2_push 29 = .ok (.aload_n 2, 1) := by decide +kernel
theorem dX2_push_30 : decode cX2_push 30 = .ok (.aload_n 1, 1) := by decide +kernel
theorem dX2_push_31 : decode cX2_push 31 = .ok (.invokevirtual 29, 3) := by decide +kernel
theorem dX2_push_34 : decode cX2_push 34 = .ok (.aload_n 0, 1) := by decide +kernel
theorem dX2_push_35 : decode cX2_push 35 = .ok (.dup, 1) := by decide +kernel
theorem dX2_push_36 : decode cX2_push 36 = .ok (.getfield 17, 3) := by decide +kernel
theorem dX2_push_39 : decode cX2_push 39 = .ok (.iconst 1, 1) := by decide +kernel
theorem dX2_push_40 : decode cX2_push 40 = .ok (.iadd, 1) := by decide +kernel
theorem dX2_push_41 : decode cX2_push 41 = .ok (.putfield 17, 3) := by decide +kernel
theorem dX2_push_44 : decode cX2_push 44 = .ok (.return_, 1) := by decide +kernel
theorem dX2_stateAt_0 : decode cX2_stateAt 0 = .ok (.iload_n 1, 1) := by decide +kernel
theorem dX2_stateAt_1 : decode cX2_stateAt 1 = .ok (.ifCond .lt 21, 3) := by decide +kernel
theorem dX2_stateAt_4 : decode cX2_stateAt 4 = .ok (.iload_n 1, 1) := by decide +kernel
theorem dX2_stateAt_5 : decode cX2_stateAt 5 = .ok (.aload_n 0, 1) := by decide +kernel
theorem dX2_stateAt_6 : decode cX2_stateAt 6 = .ok (.getfield 11, 3) := by decide +kernel
theorem dX2_stateAt_9 : decode cX2_stateAt 9 = .ok (.arraylength, 1) := by decide +kernel
theorem dX2_stateAt_10 : decode cX2_stateAt 10 = .ok (.if_icmp .ge 12, 3) := by decide +kernel
theorem dX2_stateAt_13 : decode cX2_stateAt 13 = .ok (.aload_n 0, 1) := by decide +kernel
theorem dX2_stateAt_14 : decode cX2_stateAt 14 = .ok (.getfield 11, 3) := by decide +kernel
theorem dX2_stateAt_17 : decode cX2_stateAt 17 = .ok (.iload_n 1, 1) := by decide +kernel
theorem dX2_stateAt_18 : decode cX2_stateAt 18 = .ok (.aaload, 1) := by decide +kernel
theorem dX2_stateAt_19 : decode cX2_stateAt 19 = .ok (.goto 4, 3) := by decide +kernel
theorem dX2_stateAt_22 : decode cX2_stateAt 22 = .ok (.aconst_null, 1) := by decide +kernel
theorem dX2_stateAt_23 : decode cX2_stateAt 23 = .ok (.areturn, 1) := by decide +kernel
set_option maxRecDepth 20000 in
theorem ggX2_dropOldest_X2_stateAt : GoodIn wsX2_dropOldest wsX2_stateAt := goodIn_r _ [7, 1, 8, 9] (by decide +kernel) (by decide +kernel)
set_option maxRecDepth 20000 in
theorem gX2_dropOldest_X2_stateAt : GoodIn wsX2_dropOldest (wsV RX2 25 RX2 yX2_stateAt wsX2_stateAt) := goodIn_app (goodIn_of _ (by decide +kernel)) ggX2_dropOldest_X2_stateAt
theorem dX2_dropOldest_0 : decode cX2_dropOldest 0 = .ok (.aload_n 0, 1) := by decide +kernel
theorem dX2_dropOldest_1 : decode cX2_dropOldest 1 = .ok (.iconst 0, 1) := by decide +kernel
theorem dX2_dropOldest_2 : decode cX2_dropOldest 2 = .ok (.invokevirtual 25, 3) := by decide +kernel
theorem dX2_dropOldest_5 : decode cX2_dropOldest 5 = .ok (.astore_n 1, 1) := by decide +kernel
theorem dX2_dropOldest_6 : decode cX2_dropOldest 6 = .ok (.iconst 1, 1) := by decide +kernel
theorem dX2_dropOldest_7 : decode cX2_dropOldest 7 = .ok (.istore_n 2, 1) := by decide +kernel
theorem dX2_dropOldest_8 : decode cX2_dropOldest 8 = .ok (.iload_n 2, 1) := by decide +kernel
theorem dX2_dropOldest_9 : decode cX2_dropOldest 9 = .ok (.aload_n 0, 1) := by decide +kernel
theorem dX2_dropOldest_10 : decode cX2_dropOldest 10 = .ok (.getfield 11, 3) := by decide +kernel
theorem dX2_dropOldest_13 : decode cX2_dropOldest 13 = .ok (.arraylength, 1) := by decide +kernel
theorem dX2_dropOldest_14 : decode cX2_dropOldest 14 = .ok (.if_icmp .ge 23, 3) := by decide +kernel
theorem dX2_dropOldest_17 : decode cX2_dropOldest 17 = .ok (.aload_n 0, 1) := by decide +kernel
theorem dX2_dropOldest_18 : decode cX2_dropOldest 18 = .ok (.getfield 11, 3) := by decide +kernel
theorem dX2_dropOldest_21 : decode cX2_dropOldest 21 = .ok (.iload_n 2, 1) := by decide +kernel
theorem dX2_dropOldest_22 : decode cX2_dropOldest 22 = .ok (.iconst 1, 1) := by decide +kernel
theorem dX2_dropOldest_23 : decode cX2_dropOldest 23 = .ok (.isub, 1) := by decide +kernel
theorem dX2_dropOldest_24 : decode cX2_dropOldest 24 = .ok (.aload_n 0, 1) := by decide +kernel
theorem dX2_dropOldest_25 : decode cX2_dropOldest 25 = .ok (.getfield 11, 3) := by decide +kernel
theorem dX2_dropOldest_28 : decode cX2_dropOldest 28 = .ok (.iload_n 2, 1) := by decide +kernel
theorem dX2_dropOldest_29 : decode cX2_dropOldest 29 = .ok (.aaload, 1) := by decide +kernel
theorem dX2_dropOldest_30 : decode cX2_dropOldest 30 = .ok (.aastore, 1) := by decide +kernel
theorem dX2_dropOldest_31 : decode cX2_dropOldest 31 = .ok (.iinc 2 1, 3) := by decide +kernel
theorem dX2_dropOldest_34 : decode cX2_dropOldest 34 = .ok (.goto (-26), 3) := by decide +kernel
theorem dX2_dropOldest_37 : decode cX2_dropOldest 37 = .ok (.aload_n 0, 1) := by decide +kernel
theorem dX2_dropOldest_38 : decode cX2_dropOldest 38 = .ok (.getfield 11, 3) := by decide +kernel
theorem dX2_dropOldest_41 : decode cX2_dropOldest 41 = .ok (.arraylength, 1) := by decide +kernel
theorem dX2_dropOldest_42 : decode cX2_dropOldest 42 = .ok (.ifCond .le 16, 3) := by decide +kernel
theorem dX2_dropOldest_45 : decode cX2_dropOldest 45 = .ok (.aload_n 0, 1) := by decide +kernel
theorem dX2_dropOldest_46 : decode cX2_dropOldest 46 = .ok (.getfield 11, 3) := by decide +kernel
theorem dX2_dropOldest_49 : decode cX2_dropOldest 49 = .ok (.aload_n 0, 1) := by decide +kernel
theorem dX2_dropOldest_50 : decode cX2_dropOldest 50 = .ok (.getfield 11, 3) := by decide +kernel
theorem dX2_dropOldest_53 : decode cX2_dropOldest 53 = .ok (.arraylength, 1) := by decide +kernel
theorem dX2_dropOldest_54 : decode cX2_dropOldest 54 = .ok (.iconst 1, 1) := by decide +kernel
theorem dX2_dropOldest_55 : decode cX2_dropOldest 55 = .ok (.isub, 1) := by decide +kernel
theorem dX2_dropOldest_56 : decode cX2_dropOldest 56 = .ok (.aload_n 1, 1) := by decide +kernel
theorem dX2_dropOldest_57 : decode cX2_dropOldest 57 = .ok (.aastore, 1) := by decide +kernel
theorem dX2_dropOldest_58 : decode cX2_dropOldest 58 = .ok (.aload_n 0, 1) := by decide +kernel
theorem dX2_dropOldest_59 : decode cX2_dropOldest 59 = .ok (.dup, 1) := by decide +kernel
theorem dX2_dropOldest_60 : decode cX2_dropOldest 60 = .ok (.getfield 17, 3) := by decide +kernel
theorem dX2_dropOldest_63 : decode cX2_dropOldest 63 = .ok (.iconst 1, 1) := by decide +kernel
theorem dX2_dropOldest_64 : decode cX2_dropOldest 64 = .ok (.isub, 1) := by decide +kernel
theorem dX2_dropOldest_65 : decode cX2_dropOldest 65 = .ok (.putfield 17, 3) := by decide +kernel
theorem dX2_dropOldest_68 : decode cX2_dropOldest 68 = .ok (.return_, 1) := by decide +kernel
theorem dX3_codeOf_0 : decode cX3_codeOf 0 = .ok (.iload_n 0, 1) := by decide +kernel
theorem dX3_codeOf_1 : decode cX3_codeOf 1 = .ok (.ifCond .lt 19, 3) := by decide +kernel
theorem dX3_codeOf_4 : decode cX3_codeOf 4 = .ok (.iload_n 0, 1) := by decide +kernel
theorem dX3_codeOf_5 : decode cX3_codeOf 5 = .ok (.getstatic 9, 3) := by decide +kernel
theorem dX3_codeOf_8 : decode cX3_codeOf 8 = .ok (.arraylength, 1) := by decide +kernel
theorem dX3_codeOf_9 : decode cX3_codeOf 9 = .ok (.if_icmp .ge 11, 3) := by decide +kernel
theorem dX3_codeOf_12 : decode cX3_codeOf 12 = .ok (.getstatic 9, 3) := by decide +kernel
theorem dX3_codeOf_15 : decode cX3_codeOf 15 = .ok (.iload_n 0, 1) := by decide +kernel
theorem dX3_codeOf_16 : decode cX3_codeOf 16 = .ok (.caload, 1) := by decide +kernel
theorem dX3_codeOf_17 : decode cX3_codeOf 17 = .ok (.goto 4, 3) := by decide +kernel
theorem dX3_codeOf_20 : decode cX3_codeOf 20 = .ok (.iconst 0, 1) := by decide +kernel
theorem dX3_codeOf_21 : decode cX3_codeOf 21 = .ok (.ireturn, 1) := by decide +kernel
set_option maxRecDepth 20000 in
theorem ggX3_keyOf_X3_codeOf : GoodIn wsX3_keyOf wsX3_codeOf := goodIn_r _ [4] (by decide +kernel) (by decide +kernel)
set_option maxRecDepth 20000 in
theorem gX3_keyOf_X3_codeOf : GoodIn wsX3_keyOf (va_wsS RX3 13 yX3_codeOf wsX3_codeOf) := goodIn_app (goodIn_of _ (by decide +kernel)) ggX3_keyOf_X3_codeOf
theorem dX3_keyOf_0 : decode cX3_keyOf 0 = .ok (.iconst 0, 1) := by decide +kernel
theorem dX3_keyOf_1 : decode cX3_keyOf 1 = .ok (.istore_n 1, 1) := by decide +kernel
theorem dX3_keyOf_2 : decode cX3_keyOf 2 = .ok (.iload_n 1, 1) := by decide +kernel
theorem dX3_keyOf_3 : decode cX3_keyOf 3 = .ok (.bipush 12, 2) := by decide +kernel
theorem dX3_keyOf_5 : decode cX3_keyOf 5 = .ok (.if_icmp .ge 19, 3) := by decide +kernel
theorem dX3_keyOf_8 : decode cX3_keyOf 8 = .ok (.iload_n 1, 1) := by decide +kernel
theorem dX3_keyOf_9 : decode cX3_keyOf 9 = .ok (.invokestatic 13, 3) := by decide +kernel
theorem dX3_keyOf_12 : decode cX3_keyOf 12 = .ok (.iload_n 0, 1) := by decide +kernel
theorem dX3_keyOf_13 : decode cX3_keyOf 13 = .ok (.if_icmp .ne 5, 3) := by decide +kernel
theorem dX3_keyOf_16 : decode cX3_keyOf 16 = .ok (.iload_n 1, 1) := by decide +kernel
theorem dX3_keyOf_17 : decode cX3_keyOf 17 = .ok (.ireturn, 1) := by decide +kernel
theorem dX3_keyOf_18 : decode cX3_keyOf 18 = .ok (.iinc 1 1, 3) := by decide +kernel
theorem dX3_keyOf_21 : decode cX3_keyOf 21 = .ok (.goto (-19), 3) := by decide +kernel
theorem dX3_keyOf_24 : decode cX3_keyOf 24 = .ok (.iconst (-1), 1) := by decide +kernel
theorem dX3_keyOf_25 : decode cX3_keyOf 25 = .ok (.ireturn, 1) := by decide +kernel
set_option maxRecDepth 20000 in
theorem ggX3_codeAt_X3_codeOf : GoodIn wsX3_codeAt wsX3_codeOf := goodIn_r _ [4] (by decide +kernel) (by decide +kernel)
set_option maxRecDepth 20000 in
theorem gX3_codeAt_X3_codeOf : GoodIn wsX3_codeAt (va_wsS RX3 13 yX3_codeOf wsX3_codeOf) := goodIn_app (goodIn_of _ (by decide +kernel)) ggX3_codeAt_X3_codeOf
theorem dX3_codeAt_0 : decode cX3_codeAt 0 = .ok (.iconst 0, 1) := by decide +kernel
theorem dX3_codeAt_1 : decode cX3_codeAt 1 = .ok (.istore_n 2, 1) := by decide +kernel
theorem dX3_codeAt_2 : decode cX3_codeAt 2 = .ok (.iconst 0, 1) := by decide +kernel
theorem dX3_codeAt_3 : decode cX3_codeAt 3 = .ok (.istore_n 3, 1) := by decide +kernel
theorem dX3_codeAt_4 : decode cX3_codeAt 4 = .ok (.iload_n 3, 1) := by decide +kernel
theorem dX3_codeAt_5 : decode cX3_codeAt 5 = .ok (.bipush 12, 2) := by decide +kernel
theorem dX3_codeAt_7 : decode cX3_codeAt 7 = .ok (.if_icmp .ge 33, 3) := by decide +kernel
theorem dX3_codeAt_10 : decode cX3_codeAt 10 = .ok (.iload_n 0, 1) := by decide +kernel
theorem dX3_codeAt_11 : decode cX3_codeAt 11 = .ok (.iload_n 3, 1) := by decide +kernel
theorem dX3_codeAt_12 : decode cX3_codeAt 12 = .ok (.ishr, 1) := by decide +kernel
theorem dX3_codeAt_13 : decode cX3_codeAt 13 = .ok (.iconst 1, 1) := by decide +kernel
theorem dX3_codeAt_14 : decode cX3_codeAt 14 = .ok (.iand, 1) := by decide +kernel
theorem dX3_codeAt_15 : decode cX3_codeAt 15 = .ok (.ifCond .ne 6, 3) := by decide +kernel
theorem dX3_codeAt_18 : decode cX3_codeAt 18 = .ok (.goto 16, 3) := by decide +kernel
theorem dX3_codeAt_21 : decode cX3_codeAt 21 = .ok (.iload_n 2, 1) := by decide +kernel
theorem dX3_codeAt_22 : decode cX3_codeAt 22 = .ok (.iload_n 1, 1) := by decide +kernel
theorem dX3_codeAt_23 : decode cX3_codeAt 23 = .ok (.if_icmp .ne 8, 3) := by decide +kernel
theorem dX3_codeAt_26 : decode cX3_codeAt 26 = .ok (.iload_n 3, 1) := by decide +kernel
theorem dX3_codeAt_27 : decode cX3_codeAt 27 = .ok (.invokestatic 13, 3) := by decide +kernel
theorem dX3_codeAt_30 : decode cX3_codeAt 30 = .ok (.ireturn, 1) := by decide +kernel
theorem dX3_codeAt_31 : decode cX3_codeAt 31 = .ok (.iinc 2 1, 3) := by decide +kernel
theorem dX3_codeAt_34 : decode cX3_codeAt 34 = .ok (.iinc 3 1, 3) := by decide +kernel
theorem dX3_codeAt_37 : decode cX3_codeAt 37 = .ok (.goto (-33), 3) := by decide +kernel
theorem dX3_codeAt_40 : decode cX3_codeAt 40 = .ok (.iconst 0, 1) := by decide +kernel
theorem dX3_codeAt_41 : decode cX3_codeAt 41 = .ok (.ireturn, 1) := by decide +kernel
theorem dX4_init_0 : decode cX4_init 0 = .ok (.aload_n 0, 1) := by decide +kernel
theorem dX4_init_1 : decode cX4_init 1 = .ok (.invokespecial 3, 3) := by decide +kernel
theorem dX4_init_4 : decode cX4_init 4 = .ok (.aload_n 0, 1) := by decide +kernel
theorem dX4_init_5 : decode cX4_init 5 = .ok (.lconst 0, 1) := by decide +kernel
theorem dX4_init_6 : decode cX4_init 6 = .ok (.putfield 9, 3) := by decide +kernel
theorem dX4_init_9 : decode cX4_init 9 = .ok (.aload_n 0, 1) := by decide +kernel
theorem dX4_init_10 : decode cX4_init 10 = .ok (.iconst 0, 1) := by decide +kernel
theorem dX4_init_11 : decode cX4_init 11 = .ok (.putfield 15, 3) := by decide +kernel
theorem dX4_init_14 : decode cX4_init 14 = .ok (.aload_n 0, 1) := by decide +kernel
theorem dX4_init_15 : decode cX4_init 15 = .ok (.iconst 0, 1) := by decide +kernel
theorem dX4_init_16 : decode cX4_init 16 = .ok (.putfield 19, 3) := by decide +kernel
theorem dX4_init_19 : decode cX4_init 19 = .ok (.aload_n 0, 1) := by decide +kernel
theorem dX4_init_20 : decode cX4_init 20 = .ok (.iconst 0, 1) := by decide +kernel
theorem dX4_init_21 : decode cX4_init 21 = .ok (.putfield 22, 3) := by decide +kernel
theorem dX4_init_24 : decode cX4_init 24 = .ok (.aload_n 0, 1) := by decide +kernel
theorem dX4_init_25 : decode cX4_init 25 = .ok (.lconst 0, 1) := by decide +kernel
theorem dX4_init_26 : decode cX4_init 26 = .ok (.putfield 26, 3) := by decide +kernel
theorem dX4_init_29 : decode cX4_init 29 = .ok (.aload_n 0, 1) := by decide +kernel
theorem dX4_init_30 : decode cX4_init 30 = .ok (.iconst 0, 1) := by decide +kernel
theorem dX4_init_31 : decode cX4_init 31 = .ok (.putfield 29, 3) := by decide +kernel
theorem dX4_init_34 : decode cX4_init 34 = .ok (.return_, 1) := by decide +kernel
set_option maxRecDepth 20000 in
theorem ggX4_firstErrorOf_X4_restart : GoodIn wsX4_firstErrorOf wsX4_restart := goodIn_r _ [7, 8, 9, 10, 11, 12, 13, 55, 56, 57, 58, 59, 60] (by decide +kernel) (by decide +kernel)
set_option maxRecDepth 20000 in
theorem gX4_firstErrorOf_X4_restart : GoodIn wsX4_firstErrorOf (wsV RX4 32 RX4 yX4_restart wsX4_restart) := goodIn_app (goodIn_of _ (by decide +kernel)) ggX4_firstErrorOf_X4_restart
set_option maxRecDepth 20000 in
theorem ggX4_firstErrorOf_X6_at : GoodIn wsX4_firstErrorOf wsX6_at := goodIn_r _ [17] (by decide +kernel) (by decide +kernel)
set_option maxRecDepth 20000 in
theorem gX4_firstErrorOf_X6_at : GoodIn wsX4_firstErrorOf (va_wsS RX4 44 yX6_at wsX6_at) := goodIn_app (goodIn_of _ (by decide +kernel)) ggX4_firstErrorOf_X6_at
set_option maxRecDepth 20000 in
theorem ggX4_firstErrorOf_X4_reads : GoodIn wsX4_firstErrorOf wsX4_reads := goodIn_r _ [21, 11, 22, 23, 24, 6, 25, 13, 12, 26, 27, 28, 29, 3, 4, 5, 7, 8, 9, 10, 30, 31, 32, 33, 34, 35, 36, 37, 38, 39, 40, 41, 42, 43, 44, 45, 46, 47, 48, 49, 50, 51, 52, 55, 56, 57, 58, 59, 60] (by decide +kernel) (by decide +kernel)
set_option maxRecDepth 20000 in
theorem gX4_firstErrorOf_X4_reads : GoodIn wsX4_firstErrorOf (wsV RX4 50 RX4 yX4_reads wsX4_reads) := goodIn_app (goodIn_of _ (by decide +kernel)) ggX4_firstErrorOf_X4_reads
theorem dX4_firstErrorOf_0 : decode cX4_firstErrorOf 0 = .ok (.aload_n 0, 1) := by decide +kernel
theorem dX4_firstErrorOf_1 : decode cX4_firstErrorOf 1 = .ok (.invokevirtual 32, 3) := by decide +kernel
theorem dX4_firstErrorOf_4 : decode cX4_firstErrorOf 4 = .ok (.iconst 0, 1) := by decide +kernel
theorem dX4_firstErrorOf_5 : decode cX4_firstErrorOf 5 = .ok (.istore_n 2, 1) := by decide +kernel
theorem dX4_firstErrorOf_6 : decode cX4_firstErrorOf 6 = .ok (.iload_n 2, 1) := by decide +kernel
theorem dX4_firstErrorOf_7 : decode cX4_firstErrorOf 7 = .ok (.aload_n 1, 1) := by decide +kernel
theorem dX4_firstErrorOf_8 : decode cX4_firstErrorOf 8 = .ok (.getfield 35, 3) := by decide +kernel
theorem dX4_firstErrorOf_11 : decode cX4_firstErrorOf 11 = .ok (.if_icmp .ge 26, 3) := by decide +kernel
theorem dX4_firstErrorOf_14 : decode cX4_firstErrorOf 14 = .ok (.aload_n 0, 1) := by decide +kernel
theorem dX4_firstErrorOf_15 : decode cX4_firstErrorOf 15 = .ok (.aload_n 1, 1) := by decide +kernel
theorem dX4_firstErrorOf_16 : decode cX4_firstErrorOf 16 = .ok (.getfield 40, 3) := by decide +kernel
theorem dX4_firstErrorOf_19 : decode cX4_firstErrorOf 19 = .ok (.iload_n 2, 1) := by decide +kernel
theorem dX4_firstErrorOf_20 : decode cX4_firstErrorOf 20 = .ok (.invokestatic 44, 3) := by decide +kernel
theorem dX4_firstErrorOf_23 : decode cX4_firstErrorOf 23 = .ok (.invokevirtual 50, 3) := by decide +kernel
theorem dX4_firstErrorOf_26 : decode cX4_firstErrorOf 26 = .ok (.ifCond .ne 5, 3) := by decide +kernel
theorem dX4_firstErrorOf_29 : decode cX4_firstErrorOf 29 = .ok (.iload_n 2, 1) := by decide +kernel
theorem dX4_firstErrorOf_30 : decode cX4_firstErrorOf 30 = .ok (.ireturn, 1) := by decide +kernel
theorem dX4_firstErrorOf_31 : decode cX4_firstErrorOf 31 = .ok (.iinc 2 1, 3) := by decide +kernel
theorem dX4_firstErrorOf_34 : decode cX4_firstErrorOf 34 = .ok (.goto (-28), 3) := by decide +kernel
theorem dX4_firstErrorOf_37 : decode cX4_firstErrorOf 37 = .ok (.aload_n 1, 1) := by decide +kernel
theorem dX4_firstErrorOf_38 : decode cX4_firstErrorOf 38 = .ok (.getfield 35, 3) := by decide +kernel
theorem dX4_firstErrorOf_41 : decode cX4_firstErrorOf 41 = .ok (.ireturn, 1) := by decide +kernel
set_option maxRecDepth 20000 in
theorem ggX4_isList_X4_firstErrorOf : GoodIn wsX4_isList wsX4_firstErrorOf := goodIn_r _ [7, 1, 8, 9, 10, 11, 6, 12, 13, 14, 15, 16, 17, 2, 18, 19, 20, 21, 22, 23, 24, 25, 26, 27, 28, 29, 30, 31, 32, 33, 34, 35, 36, 37, 38, 39, 40, 41, 42, 43, 44, 45, 46, 47, 48, 49, 50, 51, 52, 53, 54, 55, 56, 57, 58, 59, 60, 61, 62, 63, 64] (by decide +kernel) (by decide +kernel)
set_option maxRecDepth 20000 in
theorem gX4_isList_X4_firstErrorOf : GoodIn wsX4_isList (wsV RX4 54 RX4 yX4_firstErrorOf wsX4_firstErrorOf) := goodIn_app (goodIn_of _ (by decide +kernel)) ggX4_isList_X4_firstErrorOf
theorem dX4_isList_0 : decode cX4_isList 0 = .ok (.aload_n 0, 1) := by decide +kernel
theorem dX4_isList_1 : decode cX4_isList 1 = .ok (.aload_n 1, 1) := by decide +kernel
theorem dX4_isList_2 : decode cX4_isList 2 = .ok (.invokevirtual 54, 3) := by decide +kernel
theorem dX4_isList_5 : decode cX4_isList 5 = .ok (.aload_n 1, 1) := by decide +kernel
theorem dX4_isList_6 : decode cX4_isList 6 = .ok (.getfield 35, 3) := by decide +kernel
theorem dX4_isList_9 : decode cX4_isList 9 = .ok (.if_icmp .ne 14, 3) := by decide +kernel
theorem dX4_isList_12 : decode cX4_isList 12 = .ok (.aload_n 0, 1) := by decide +kernel
theorem dX4_isList_13 : decode cX4_isList 13 = .ok (.getfield 29, 3) := by decide +kernel
theorem dX4_isList_16 : decode cX4_isList 16 = .ok (.ifCond .le 7, 3) := by decide +kernel
theorem dX4_isList_19 : decode cX4_isList 19 = .ok (.iconst 1, 1) := by decide +kernel
theorem dX4_isList_20 : decode cX4_isList 20 = .ok (.goto 4, 3) := by decide +kernel
theorem dX4_isList_23 : decode cX4_isList 23 = .ok (.iconst 0, 1) := by decide +kernel
theorem dX4_isList_24 : decode cX4_isList 24 = .ok (.ireturn, 1) := by decide +kernel
set_option maxRecDepth 20000 in
theorem ggX4_addEntries_X4_restart : GoodIn wsX4_addEntries wsX4_restart := goodIn_r _ [9, 3, 10, 11, 12, 4, 13, 77, 78, 79, 80, 81, 82] (by decide +kernel) (by decide +kernel)
set_option maxRecDepth 20000 in
theorem gX4_addEntries_X4_restart : GoodIn wsX4_addEntries (wsV RX4 32 RX4 yX4_restart wsX4_restart) := goodIn_app (goodIn_of _ (by decide +kernel)) ggX4_addEntries_X4_restart
set_option maxRecDepth 20000 in
theorem ggX4_addEntries_X6_at : GoodIn wsX4_addEntries wsX6_at := goodIn_r _ [17] (by decide +kernel) (by decide +kernel)
set_option maxRecDepth 20000 in
theorem gX4_addEntries_X6_at : GoodIn wsX4_addEntries (va_wsS RX4 44 yX6_at wsX6_at) := goodIn_app (goodIn_of _ (by decide +kernel)) ggX4_addEntries_X6_at
set_option maxRecDepth 20000 in
theorem ggX4_addEntries_X1_hasRoomFor : GoodIn wsX4_addEntries wsX1_hasRoomFor := goodIn_r _ [22, 23, 24, 25, 26, 21, 27, 28, 29, 30, 16, 31, 83, 84, 85] (by decide +kernel) (by decide +kernel)
set_option maxRecDepth 20000 in
theorem gX4_addEntries_X1_hasRoomFor : GoodIn wsX4_addEntries (wsV RX4 58 RX1 yX1_hasRoomFor wsX1_hasRoomFor) := goodIn_app (goodIn_of _ (by decide +kernel)) ggX4_addEntries_X1_hasRoomFor
set_option maxRecDepth 20000 in
theorem ggX4_addEntries_X1_add : GoodIn wsX4_addEntries wsX1_add := goodIn_r _ [35, 28, 23, 36, 37, 38, 16, 39, 83, 84, 85] (by decide +kernel) (by decide +kernel)
set_option maxRecDepth 20000 in
theorem gX4_addEntries_X1_add : GoodIn wsX4_addEntries (wsV RX4 64 RX1 yX1_add wsX1_add) := goodIn_app (goodIn_of _ (by decide +kernel)) ggX4_addEntries_X1_add
set_option maxRecDepth 20000 in
theorem ggX4_addEntries_X4_reads : GoodIn wsX4_addEntries wsX4_reads := goodIn_r _ [43, 12, 44, 45, 46, 8, 47, 13, 4, 48, 49, 50, 51, 5, 6, 7, 9, 3, 10, 11, 52, 53, 54, 55, 56, 57, 58, 59, 60, 61, 62, 63, 64, 65, 66, 67, 68, 69, 70, 71, 72, 73, 74, 77, 78, 79, 80, 81, 82] (by decide +kernel) (by decide +kernel)
set_option maxRecDepth 20000 in
theorem gX4_addEntries_X4_reads : GoodIn wsX4_addEntries (wsV RX4 50 RX4 yX4_reads wsX4_reads) := goodIn_app (goodIn_of _ (by decide +kernel)) ggX4_addEntries_X4_reads
theorem dX4_addEntries_0 : decode cX4_addEntries 0 = .ok (.aload_n 0, 1) := by decide +kernel
theorem dX4_addEntries_1 : decode cX4_addEntries 1 = .ok (.invokevirtual 32, 3) := by decide +kernel
theorem dX4_addEntries_4 : decode cX4_addEntries 4 = .ok (.iconst 0, 1) := by decide +kernel
theorem dX4_addEntries_5 : decode cX4_addEntries 5 = .ok (.istore_n 3, 1) := by decide +kernel
theorem dX4_addEntries_6 : decode cX4_addEntries 6 = .ok (.iload_n 3, 1) := by decide +kernel
theorem dX4_addEntries_7 : decode cX4_addEntries 7 = .ok (.aload_n 1, 1) := by decide +kernel
theorem dX4_addEntries_8 : decode cX4_addEntries 8 = .ok (.getfield 35, 3) := by decide +kernel
theorem dX4_addEntries_11 : decode cX4_addEntries 11 = .ok (.if_icmp .gt 71, 3) := by decide +kernel
theorem dX4_addEntries_14 : decode cX4_addEntries 14 = .ok (.iload_n 3, 1) := by decide +kernel
theorem dX4_addEntries_15 : decode cX4_addEntries 15 = .ok (.aload_n 1, 1) := by decide +kernel
theorem dX4_addEntries_16 : decode cX4_addEntries 16 = .ok (.getfield 35, 3) := by decide +kernel
theorem dX4_addEntries_19 : decode cX4_addEntries 19 = .ok (.if_icmp .ge 14, 3) := by decide +kernel
theorem dX4_addEntries_22 : decode cX4_addEntries 22 = .ok (.aload_n 1, 1) := by decide +kernel
theorem dX4_addEntries_23 : decode cX4_addEntries 23 = .ok (.getfield 40, 3) := by decide +kernel
theorem dX4_addEntries_26 : decode cX4_addEntries 26 = .ok (.iload_n 3, 1) := by decide +kernel
theorem dX4_addEntries_27 : decode cX4_addEntries 27 = .ok (.invokestatic 44, 3) := by decide +kernel
theorem dX4_addEntries_30 : decode cX4_addEntries 30 = .ok (.goto 5, 3) := by decide +kernel
theorem dX4_addEntries_33 : decode cX4_addEntries 33 = .ok (.bipush 59, 2) := by decide +kernel
theorem dX4_addEntries_35 : decode cX4_addEntries 35 = .ok (.istore 4, 2) := by decide +kernel
theorem dX4_addEntries_37 : decode cX4_addEntries 37 = .ok (.iload 4, 2) := by decide +kernel
theorem dX4_addEntries_39 : decode cX4_addEntries 39 = .ok (.bipush 59, 2) := by decide +kernel
theorem dX4_addEntries_41 : decode cX4_addEntries 41 = .ok (.if_icmp .ne 28, 3) := by decide +kernel
theorem dX4_addEntries_44 : decode cX4_addEntries 44 = .ok (.aload_n 2, 1) := by decide +kernel
theorem dX4_addEntries_45 : decode cX4_addEntries 45 = .ok (.aload_n 0, 1) := by decide +kernel
theorem dX4_addEntries_46 : decode cX4_addEntries 46 = .ok (.getfield 9, 3) := by decide +kernel
theorem dX4_addEntries_49 : decode cX4_addEntries 49 = .ok (.invokevirtual 58, 3) := by decide +kernel
theorem dX4_addEntries_52 : decode cX4_addEntries 52 = .ok (.ifCond .ne 5, 3) := by decide +kernel
theorem dX4_addEntries_55 : decode cX4_addEntries 55 = .ok (.iconst 0, 1) := by decide +kernel
theorem dX4_addEntries_56 : decode cX4_addEntries 56 = .ok (.ireturn, 1) := by decide +kernel
theorem dX4_addEntries_57 : decode cX4_addEntries 57 = .ok (.aload_n 2, 1) := by decide +kernel
theorem dX4_addEntries_58 : decode cX4_addEntries 58 = .ok (.aload_n 0, 1) := by decide +kernel
theorem dX4_addEntries_59 : decode cX4_addEntries 59 = .ok (.getfield 9, 3) := by decide +kernel
theorem dX4_addEntries_62 : decode cX4_addEntries 62 = .ok (.aload_n 0, 1) := by decide +kernel
theorem dX4_addEntries_63 : decode cX4_addEntries 63 = .ok (.getfield 26, 3) := by decide +kernel
theorem dX4_addEntries_66 : decode cX4_addEntries 66 = .ok (.invokevirtual 64, 3) := by decide +kernel
theorem dX4_addEntries_69 : decode cX4_addEntries 69 = .ok (.aload_n 0, 1) := by decide +kernel
theorem dX4_addEntries_70 : decode cX4_addEntries 70 = .ok (.iload 4, 2) := by decide +kernel
theorem dX4_addEntries_72 : decode cX4_addEntries 72 = .ok (.invokevirtual 50, 3) := by decide +kernel
theorem dX4_addEntries_75 : decode cX4_addEntries 75 = .ok (.pop, 1) := by decide +kernel
theorem dX4_addEntries_76 : decode cX4_addEntries 76 = .ok (.iinc 3 1, 3) := by decide +kernel
theorem dX4_addEntries_79 : decode cX4_addEntries 79 = .ok (.goto (-73), 3) := by decide +kernel
theorem dX4_addEntries_82 : decode cX4_addEntries 82 = .ok (.iconst 1, 1) := by decide +kernel
theorem dX4_addEntries_83 : decode cX4_addEntries 83 = .ok (.ireturn, 1) := by decide +kernel
theorem dX4_restart_0 : decode cX4_restart 0 = .ok (.aload_n 0, 1) := by decide +kernel
theorem dX4_restart_1 : decode cX4_restart 1 = .ok (.lconst 0, 1) := by decide +kernel
theorem dX4_restart_2 : decode cX4_restart 2 = .ok (.putfield 9, 3) := by decide +kernel
theorem dX4_restart_5 : decode cX4_restart 5 = .ok (.aload_n 0, 1) := by decide +kernel
theorem dX4_restart_6 : decode cX4_restart 6 = .ok (.iconst 0, 1) := by decide +kernel
theorem dX4_restart_7 : decode cX4_restart 7 = .ok (.putfield 15, 3) := by decide +kernel
theorem dX4_restart_10 : decode cX4_restart 10 = .ok (.aload_n 0, 1) := by decide +kernel
theorem dX4_restart_11 : decode cX4_restart 11 = .ok (.iconst 0, 1) := by decide +kernel
theorem dX4_restart_12 : decode cX4_restart 12 = .ok (.putfield 19, 3) := by decide +kernel
theorem dX4_restart_15 : decode cX4_restart 15 = .ok (.aload_n 0, 1) := by decide +kernel
theorem dX4_restart_16 : decode cX4_restart 16 = .ok (.iconst 0, 1) := by decide +kernel
theorem dX4_restart_17 : decode cX4_restart 17 = .ok (.putfield 22, 3) := by decide +kernel
theorem dX4_restart_20 : decode cX4_restart 20 = .ok (.aload_n 0, 1) := by decide +kernel
theorem dX4_restart_21 : decode cX4_restart 21 = .ok (.lconst 0, 1) := by decide +kernel
theorem dX4_restart_22 : decode cX4_restart 22 = .ok (.putfield 26, 3) := by decide +kernel
theorem dX4_restart_25 : decode cX4_restart 25 = .ok (.aload_n 0, 1) := by decide +kernel
theorem dX4_restart_26 : decode cX4_restart 26 = .ok (.iconst 0, 1) := by decide +kernel
theorem dX4_restart_27 : decode cX4_restart 27 = .ok (.putfield 29, 3) := by decide +kernel
theorem dX4_restart_30 : decode cX4_restart 30 = .ok (.return_, 1) := by decide +kernel
set_option maxRecDepth 20000 in
theorem ggX4_reads_X4_readsInWord : GoodIn wsX4_reads wsX4_readsInWord := goodIn_r _ [6, 7, 8, 9, 10, 11, 12, 13, 14, 15, 5, 16, 17, 18, 19, 1, 43, 44, 45, 46, 47, 48] (by decide +kernel) (by decide +kernel)
set_option maxRecDepth 20000 in
theorem gX4_reads_X4_readsInWord : GoodIn wsX4_reads (wsV RX4 68 RX4 yX4_readsInWord wsX4_readsInWord) := goodIn_app (goodIn_of _ (by decide +kernel)) ggX4_reads_X4_readsInWord
set_option maxRecDepth 20000 in
theorem ggX4_reads_X4_readsInOutline : GoodIn wsX4_reads wsX4_readsInOutline := goodIn_r _ [23, 19, 18, 1, 24, 25, 26, 27, 28, 29, 30, 31, 32, 33, 5, 34, 35, 36, 37, 38, 17, 39, 40, 41, 42, 43, 44, 45, 46, 47, 48] (by decide +kernel) (by decide +kernel)
set_option maxRecDepth 20000 in
theorem gX4_reads_X4_readsInOutline : GoodIn wsX4_reads (wsV RX4 71 RX4 yX4_readsInOutline wsX4_readsInOutline) := goodIn_app (goodIn_of _ (by decide +kernel)) ggX4_reads_X4_readsInOutline
theorem dX4_reads_0 : decode cX4_reads 0 = .ok (.aload_n 0, 1) := by decide +kernel
theorem dX4_reads_1 : decode cX4_reads 1 = .ok (.getfield 22, 3) := by decide +kernel
theorem dX4_reads_4 : decode cX4_reads 4 = .ok (.ifCond .eq 11, 3) := by decide +kernel
theorem dX4_reads_7 : decode cX4_reads 7 = .ok (.aload_n 0, 1) := by decide +kernel
theorem dX4_reads_8 : decode cX4_reads 8 = .ok (.iload_n 1, 1) := by decide +kernel
theorem dX4_reads_9 : decode cX4_reads 9 = .ok (.invokevirtual 68, 3) := by decide +kernel
theorem dX4_reads_12 : decode cX4_reads 12 = .ok (.goto 8, 3) := by decide +kernel
theorem dX4_reads_15 : decode cX4_reads 15 = .ok (.aload_n 0, 1) := by decide +kernel
theorem dX4_reads_16 : decode cX4_reads 16 = .ok (.iload_n 1, 1) := by decide +kernel
theorem dX4_reads_17 : decode cX4_reads 17 = .ok (.invokevirtual 71, 3) := by decide +kernel
theorem dX4_reads_20 : decode cX4_reads 20 = .ok (.ireturn, 1) := by decide +kernel
set_option maxRecDepth 20000 in
theorem ggX4_readsInOutline_X3_keyOf : GoodIn wsX4_readsInOutline wsX3_keyOf := goodIn_r _ [7, 8, 9, 6, 10] (by decide +kernel) (by decide +kernel)
set_option maxRecDepth 20000 in
theorem gX4_readsInOutline_X3_keyOf : GoodIn wsX4_readsInOutline (va_wsS RX4 74 yX3_keyOf wsX3_keyOf) := goodIn_app (goodIn_of _ (by decide +kernel)) ggX4_readsInOutline_X3_keyOf
set_option maxRecDepth 20000 in
theorem ggX4_readsInOutline_X4_readsKey : GoodIn wsX4_readsInOutline wsX4_readsKey := goodIn_r _ [15, 1, 25, 26, 27, 28, 29, 30] (by decide +kernel) (by decide +kernel)
set_option maxRecDepth 20000 in
theorem gX4_readsInOutline_X4_readsKey : GoodIn wsX4_readsInOutline (wsV RX4 80 RX4 yX4_readsKey wsX4_readsKey) := goodIn_app (goodIn_of _ (by decide +kernel)) ggX4_readsInOutline_X4_readsKey
set_option maxRecDepth 20000 in
theorem ggX4_readsInOutline_X4_endStroke : GoodIn wsX4_readsInOutline wsX4_endStroke := goodIn_r _ [19, 20, 2, 1, 21, 22, 23, 24, 25, 26, 27, 28, 29, 30] (by decide +kernel) (by decide +kernel)
set_option maxRecDepth 20000 in
theorem gX4_readsInOutline_X4_endStroke : GoodIn wsX4_readsInOutline (wsV RX4 83 RX4 yX4_endStroke wsX4_endStroke) := goodIn_app (goodIn_of _ (by decide +kernel)) ggX4_readsInOutline_X4_endStroke
theorem dX4_readsInOutline_0 : decode cX4_readsInOutline 0 = .ok (.iload_n 1, 1) := by decide +kernel
theorem dX4_readsInOutline_1 : decode cX4_readsInOutline 1 = .ok (.invokestatic 74, 3) := by decide +kernel
theorem dX4_readsInOutline_4 : decode cX4_readsInOutline 4 = .ok (.istore_n 2, 1) := by decide +kernel
theorem dX4_readsInOutline_5 : decode cX4_readsInOutline 5 = .ok (.iload_n 2, 1) := by decide +kernel
theorem dX4_readsInOutline_6 : decode cX4_readsInOutline 6 = .ok (.iconst (-1), 1) := by decide +kernel
theorem dX4_readsInOutline_7 : decode cX4_readsInOutline 7 = .ok (.if_icmp .eq 9, 3) := by decide +kernel
theorem dX4_readsInOutline_10 : decode cX4_readsInOutline 10 = .ok (.aload_n 0, 1) := by decide +kernel
theorem dX4_readsInOutline_11 : decode cX4_readsInOutline 11 = .ok (.iload_n 2, 1) := by decide +kernel
theorem dX4_readsInOutline_12 : decode cX4_readsInOutline 12 = .ok (.invokevirtual 80, 3) := by decide +kernel
theorem dX4_readsInOutline_15 : decode cX4_readsInOutline 15 = .ok (.ireturn, 1) := by decide +kernel
theorem dX4_readsInOutline_16 : decode cX4_readsInOutline 16 = .ok (.aload_n 0, 1) := by decide +kernel
theorem dX4_readsInOutline_17 : decode cX4_readsInOutline 17 = .ok (.getfield 19, 3) := by decide +kernel
theorem dX4_readsInOutline_20 : decode cX4_readsInOutline 20 = .ok (.ifCond .ne 5, 3) := by decide +kernel
theorem dX4_readsInOutline_23 : decode cX4_readsInOutline 23 = .ok (.iconst 0, 1) := by decide +kernel
theorem dX4_readsInOutline_24 : decode cX4_readsInOutline 24 = .ok (.ireturn, 1) := by decide +kernel
theorem dX4_readsInOutline_25 : decode cX4_readsInOutline 25 = .ok (.iload_n 1, 1) := by decide +kernel
theorem dX4_readsInOutline_26 : decode cX4_readsInOutline 26 = .ok (.bipush 47, 2) := by decide +kernel
theorem dX4_readsInOutline_28 : decode cX4_readsInOutline 28 = .ok (.if_icmp .ne 19, 3) := by decide +kernel
theorem dX4_readsInOutline_31 : decode cX4_readsInOutline 31 = .ok (.aload_n 0, 1) := by decide +kernel
theorem dX4_readsInOutline_32 : decode cX4_readsInOutline 32 = .ok (.getfield 15, 3) := by decide +kernel
theorem dX4_readsInOutline_35 : decode cX4_readsInOutline 35 = .ok (.iconst 1, 1) := by decide +kernel
theorem dX4_readsInOutline_36 : decode cX4_readsInOutline 36 = .ok (.iadd, 1) := by decide +kernel
theorem dX4_readsInOutline_37 : decode cX4_readsInOutline 37 = .ok (.iconst 4, 1) := by decide +kernel
theorem dX4_readsInOutline_38 : decode cX4_readsInOutline 38 = .ok (.if_icmp .ge 9, 3) := by decide +kernel
theorem dX4_readsInOutline_41 : decode cX4_readsInOutline 41 = .ok (.aload_n 0, 1) := by decide +kernel
theorem dX4_readsInOutline_42 : decode cX4_readsInOutline 42 = .ok (.invokevirtual 83, 3) := by decide +kernel
theorem dX4_readsInOutline_45 : decode cX4_readsInOutline 45 = .ok (.iconst 1, 1) := by decide +kernel
theorem dX4_readsInOutline_46 : decode cX4_readsInOutline 46 = .ok (.ireturn, 1) := by decide +kernel
theorem dX4_readsInOutline_47 : decode cX4_readsInOutline 47 = .ok (.iload_n 1, 1) := by decide +kernel
theorem dX4_readsInOutline_48 : decode cX4_readsInOutline 48 = .ok (.bipush 61, 2) := by decide +kernel
theorem dX4_readsInOutline_50 : decode cX4_readsInOutline 50 = .ok (.if_icmp .ne 14, 3) := by decide +kernel
theorem dX4_readsInOutline_53 : decode cX4_readsInOutline 53 = .ok (.aload_n 0, 1) := by decide +kernel
theorem dX4_readsInOutline_54 : decode cX4_readsInOutline 54 = .ok (.invokevirtual 83, 3) := by decide +kernel
theorem dX4_readsInOutline_57 : decode cX4_readsInOutline 57 = .ok (.aload_n 0, 1) := by decide +kernel
theorem dX4_readsInOutline_58 : decode cX4_readsInOutline 58 = .ok (.iconst 1, 1) := by decide +kernel
theorem dX4_readsInOutline_59 : decode cX4_readsInOutline 59 = .ok (.putfield 22, 3) := by decide +kernel
theorem dX4_readsInOutline_62 : decode cX4_readsInOutline 62 = .ok (.iconst 1, 1) := by decide +kernel
theorem dX4_readsInOutline_63 : decode cX4_readsInOutline 63 = .ok (.ireturn, 1) := by decide +kernel
theorem dX4_readsInOutline_64 : decode cX4_readsInOutline 64 = .ok (.iconst 0, 1) := by decide +kernel
theorem dX4_readsInOutline_65 : decode cX4_readsInOutline 65 = .ok (.ireturn, 1) := by decide +kernel
theorem dX4_readsKey_0 : decode cX4_readsKey 0 = .ok (.aload_n 0, 1) := by decide +kernel
theorem dX4_readsKey_1 : decode cX4_readsKey 1 = .ok (.getfield 19, 3) := by decide +kernel
theorem dX4_readsKey_4 : decode cX4_readsKey 4 = .ok (.iload_n 1, 1) := by decide +kernel
theorem dX4_readsKey_5 : decode cX4_readsKey 5 = .ok (.ishr, 1) := by decide +kernel
theorem dX4_readsKey_6 : decode cX4_readsKey 6 = .ok (.ifCond .eq 5, 3) := by decide +kernel
theorem dX4_readsKey_9 : decode cX4_readsKey 9 = .ok (.iconst 0, 1) := by decide +kernel
theorem dX4_readsKey_10 : decode cX4_readsKey 10 = .ok (.ireturn, 1) := by decide +kernel
theorem dX4_readsKey_11 : decode cX4_readsKey 11 = .ok (.aload_n 0, 1) := by decide +kernel
theorem dX4_readsKey_12 : decode cX4_readsKey 12 = .ok (.dup, 1) := by decide +kernel
theorem dX4_readsKey_13 : decode cX4_readsKey 13 = .ok (.getfield 19, 3) := by decide +kernel
theorem dX4_readsKey_16 : decode cX4_readsKey 16 = .ok (.iconst 1, 1) := by decide +kernel
theorem dX4_readsKey_17 : decode cX4_readsKey 17 = .ok (.iload_n 1, 1) := by decide +kernel
theorem dX4_readsKey_18 : decode cX4_readsKey 18 = .ok (.ishl, 1) := by decide +kernel
theorem dX4_readsKey_19 : decode cX4_readsKey 19 = .ok (.ior, 1) := by decide +kernel
theorem dX4_readsKey_20 : decode cX4_readsKey 20 = .ok (.putfield 19, 3) := by decide +kernel
theorem dX4_readsKey_23 : decode cX4_readsKey 23 = .ok (.iconst 1, 1) := by decide +kernel
theorem dX4_readsKey_24 : decode cX4_readsKey 24 = .ok (.ireturn, 1) := by decide +kernel
set_option maxRecDepth 20000 in
theorem ggX4_endStroke_X5_with : GoodIn wsX4_endStroke wsX5_with := goodIn_r _ [7] (by decide +kernel) (by decide +kernel)
set_option maxRecDepth 20000 in
theorem gX4_endStroke_X5_with : GoodIn wsX4_endStroke (va_wsS RX4 86 yX5_with wsX5_with) := goodIn_app (goodIn_of _ (by decide +kernel)) ggX4_endStroke_X5_with
theorem dX4_endStroke_0 : decode cX4_endStroke 0 = .ok (.aload_n 0, 1) := by decide +kernel
theorem dX4_endStroke_1 : decode cX4_endStroke 1 = .ok (.aload_n 0, 1) := by decide +kernel
theorem dX4_endStroke_2 : decode cX4_endStroke 2 = .ok (.getfield 9, 3) := by decide +kernel
theorem dX4_endStroke_5 : decode cX4_endStroke 5 = .ok (.aload_n 0, 1) := by decide +kernel
theorem dX4_endStroke_6 : decode cX4_endStroke 6 = .ok (.getfield 15, 3) := by decide +kernel
theorem dX4_endStroke_9 : decode cX4_endStroke 9 = .ok (.aload_n 0, 1) := by decide +kernel
theorem dX4_endStroke_10 : decode cX4_endStroke 10 = .ok (.getfield 19, 3) := by decide +kernel
theorem dX4_endStroke_13 : decode cX4_endStroke 13 = .ok (.invokestatic 86, 3) := by decide +kernel
theorem dX4_endStroke_16 : decode cX4_endStroke 16 = .ok (.putfield 9, 3) := by decide +kernel
theorem dX4_endStroke_19 : decode cX4_endStroke 19 = .ok (.aload_n 0, 1) := by decide +kernel
theorem dX4_endStroke_20 : decode cX4_endStroke 20 = .ok (.dup, 1) := by decide +kernel
theorem dX4_endStroke_21 : decode cX4_endStroke 21 = .ok (.getfield 15, 3) := by decide +kernel
theorem dX4_endStroke_24 : decode cX4_endStroke 24 = .ok (.iconst 1, 1) := by decide +kernel
theorem dX4_endStroke_25 : decode cX4_endStroke 25 = .ok (.iadd, 1) := by decide +kernel
theorem dX4_endStroke_26 : decode cX4_endStroke 26 = .ok (.putfield 15, 3) := by decide +kernel
theorem dX4_endStroke_29 : decode cX4_endStroke 29 = .ok (.aload_n 0, 1) := by decide +kernel
theorem dX4_endStroke_30 : decode cX4_endStroke 30 = .ok (.iconst 0, 1) := by decide +kernel
theorem dX4_endStroke_31 : decode cX4_endStroke 31 = .ok (.putfield 19, 3) := by decide +kernel
theorem dX4_endStroke_34 : decode cX4_endStroke 34 = .ok (.return_, 1) := by decide +kernel
set_option maxRecDepth 20000 in
theorem ggX4_readsInWord_X9_with : GoodIn wsX4_readsInWord wsX9_with := goodIn_r _ [6] (by decide +kernel) (by decide +kernel)
set_option maxRecDepth 20000 in
theorem gX4_readsInWord_X9_with : GoodIn wsX4_readsInWord (va_wsS RX4 92 yX9_with wsX9_with) := goodIn_app (goodIn_of _ (by decide +kernel)) ggX4_readsInWord_X9_with
set_option maxRecDepth 20000 in
theorem ggX4_readsInWord_X4_restart : GoodIn wsX4_readsInWord wsX4_restart := goodIn_r _ [11, 12, 13, 14, 15, 2, 1, 16, 17, 18, 19, 20, 21] (by decide +kernel) (by decide +kernel)
set_option maxRecDepth 20000 in
theorem gX4_readsInWord_X4_restart : GoodIn wsX4_readsInWord (wsV RX4 32 RX4 yX4_restart wsX4_restart) := goodIn_app (goodIn_of _ (by decide +kernel)) ggX4_readsInWord_X4_restart
theorem dX4_readsInWord_0 : decode cX4_readsInWord 0 = .ok (.iload_n 1, 1) := by decide +kernel
theorem dX4_readsInWord_1 : decode cX4_readsInWord 1 = .ok (.bipush 97, 2) := by decide +kernel
theorem dX4_readsInWord_3 : decode cX4_readsInWord 3 = .ok (.if_icmp .lt 46, 3) := by decide +kernel
theorem dX4_readsInWord_6 : decode cX4_readsInWord 6 = .ok (.iload_n 1, 1) := by decide +kernel
theorem dX4_readsInWord_7 : decode cX4_readsInWord 7 = .ok (.bipush 122, 2) := by decide +kernel
theorem dX4_readsInWord_9 : decode cX4_readsInWord 9 = .ok (.if_icmp .gt 40, 3) := by decide +kernel
theorem dX4_readsInWord_12 : decode cX4_readsInWord 12 = .ok (.aload_n 0, 1) := by decide +kernel
theorem dX4_readsInWord_13 : decode cX4_readsInWord 13 = .ok (.getfield 29, 3) := by decide +kernel
theorem dX4_readsInWord_16 : decode cX4_readsInWord 16 = .ok (.bipush 8, 2) := by decide +kernel
theorem dX4_readsInWord_18 : decode cX4_readsInWord 18 = .ok (.if_icmp .ge 31, 3) := by decide +kernel
theorem dX4_readsInWord_21 : decode cX4_readsInWord 21 = .ok (.aload_n 0, 1) := by decide +kernel
theorem dX4_readsInWord_22 : decode cX4_readsInWord 22 = .ok (.aload_n 0, 1) := by decide +kernel
theorem dX4_readsInWord_23 : decode cX4_readsInWord 23 = .ok (.getfield 26, 3) := by decide +kernel
theorem dX4_readsInWord_26 : decode cX4_readsInWord 26 = .ok (.aload_n 0, 1) := by decide +kernel
theorem dX4_readsInWord_27 : decode cX4_readsInWord 27 = .ok (.getfield 29, 3) := by decide +kernel
theorem dX4_readsInWord_30 : decode cX4_readsInWord 30 = .ok (.iload_n 1, 1) := by decide +kernel
theorem dX4_readsInWord_31 : decode cX4_readsInWord 31 = .ok (.invokestatic 92, 3) := by decide +kernel
theorem dX4_readsInWord_34 : decode cX4_readsInWord 34 = .ok (.putfield 26, 3) := by decide +kernel
theorem dX4_readsInWord_37 : decode cX4_readsInWord 37 = .ok (.aload_n 0, 1) := by decide +kernel
theorem dX4_readsInWord_38 : decode cX4_readsInWord 38 = .ok (.dup, 1) := by decide +kernel
theorem dX4_readsInWord_39 : decode cX4_readsInWord 39 = .ok (.getfield 29, 3) := by decide +kernel
theorem dX4_readsInWord_42 : decode cX4_readsInWord 42 = .ok (.iconst 1, 1) := by decide +kernel
theorem dX4_readsInWord_43 : decode cX4_readsInWord 43 = .ok (.iadd, 1) := by decide +kernel
theorem dX4_readsInWord_44 : decode cX4_readsInWord 44 = .ok (.putfield 29, 3) := by decide +kernel
theorem dX4_readsInWord_47 : decode cX4_readsInWord 47 = .ok (.iconst 1, 1) := by decide +kernel
theorem dX4_readsInWord_48 : decode cX4_readsInWord 48 = .ok (.ireturn, 1) := by decide +kernel
theorem dX4_readsInWord_49 : decode cX4_readsInWord 49 = .ok (.iload_n 1, 1) := by decide +kernel
theorem dX4_readsInWord_50 : decode cX4_readsInWord 50 = .ok (.bipush 59, 2) := by decide +kernel
theorem dX4_readsInWord_52 : decode cX4_readsInWord 52 = .ok (.if_icmp .ne 16, 3) := by decide +kernel
theorem dX4_readsInWord_55 : decode cX4_readsInWord 55 = .ok (.aload_n 0, 1) := by decide +kernel
theorem dX4_readsInWord_56 : decode cX4_readsInWord 56 = .ok (.getfield 29, 3) := by decide +kernel
theorem dX4_readsInWord_59 : decode cX4_readsInWord 59 = .ok (.ifCond .le 9, 3) := by decide +kernel
theorem dX4_readsInWord_62 : decode cX4_readsInWord 62 = .ok (.aload_n 0, 1) := by decide +kernel
theorem dX4_readsInWord_63 : decode cX4_readsInWord 63 = .ok (.invokevirtual 32, 3) := by decide +kernel
theorem dX4_readsInWord_66 : decode cX4_readsInWord 66 = .ok (.iconst 1, 1) := by decide +kernel
theorem dX4_readsInWord_67 : decode cX4_readsInWord 67 = .ok (.ireturn, 1) := by decide +kernel
theorem dX4_readsInWord_68 : decode cX4_readsInWord 68 = .ok (.iconst 0, 1) := by decide +kernel
theorem dX4_readsInWord_69 : decode cX4_readsInWord 69 = .ok (.ireturn, 1) := by decide +kernel
set_option maxRecDepth 20000 in
theorem ggX5_of_X6_at : GoodIn wsX5_of wsX6_at := goodIn_r _ [4] (by decide +kernel) (by decide +kernel)
set_option maxRecDepth 20000 in
theorem gX5_of_X6_at : GoodIn wsX5_of (va_wsS RX5 9 yX6_at wsX6_at) := goodIn_app (goodIn_of _ (by decide +kernel)) ggX5_of_X6_at
set_option maxRecDepth 20000 in
theorem ggX5_of_X5_with : GoodIn wsX5_of wsX5_with := goodIn_r _ [8] (by decide +kernel) (by decide +kernel)
set_option maxRecDepth 20000 in
theorem gX5_of_X5_with : GoodIn wsX5_of (va_wsS RX5 15 yX5_with wsX5_with) := goodIn_app (goodIn_of _ (by decide +kernel)) ggX5_of_X5_with
theorem dX5_of_0 : decode cX5_of 0 = .ok (.lconst 0, 1) := by decide +kernel
theorem dX5_of_1 : decode cX5_of 1 = .ok (.lstore_n 3, 1) := by decide +kernel
theorem dX5_of_2 : decode cX5_of 2 = .ok (.iconst 0, 1) := by decide +kernel
theorem dX5_of_3 : decode cX5_of 3 = .ok (.istore 5, 2) := by decide +kernel
theorem dX5_of_5 : decode cX5_of 5 = .ok (.iload 5, 2) := by decide +kernel
theorem dX5_of_7 : decode cX5_of 7 = .ok (.iload_n 2, 1) := by decide +kernel
theorem dX5_of_8 : decode cX5_of 8 = .ok (.if_icmp .ge 30, 3) := by decide +kernel
theorem dX5_of_11 : decode cX5_of 11 = .ok (.iload 5, 2) := by decide +kernel
theorem dX5_of_13 : decode cX5_of 13 = .ok (.iconst 4, 1) := by decide +kernel
theorem dX5_of_14 : decode cX5_of 14 = .ok (.if_icmp .ge 24, 3) := by decide +kernel
theorem dX5_of_17 : decode cX5_of 17 = .ok (.lload_n 3, 1) := by decide +kernel
theorem dX5_of_18 : decode cX5_of 18 = .ok (.iload 5, 2) := by decide +kernel
theorem dX5_of_20 : decode cX5_of 20 = .ok (.aload_n 0, 1) := by decide +kernel
theorem dX5_of_21 : decode cX5_of 21 = .ok (.iload_n 1, 1) := by decide +kernel
theorem dX5_of_22 : decode cX5_of 22 = .ok (.iload 5, 2) := by decide +kernel
theorem dX5_of_24 : decode cX5_of 24 = .ok (.iadd, 1) := by decide +kernel
theorem dX5_of_25 : decode cX5_of 25 = .ok (.invokestatic 9, 3) := by decide +kernel
theorem dX5_of_28 : decode cX5_of 28 = .ok (.invokestatic 15, 3) := by decide +kernel
theorem dX5_of_31 : decode cX5_of 31 = .ok (.lstore_n 3, 1) := by decide +kernel
theorem dX5_of_32 : decode cX5_of 32 = .ok (.iinc 5 1, 3) := by decide +kernel
theorem dX5_of_35 : decode cX5_of 35 = .ok (.goto (-30), 3) := by decide +kernel
theorem dX5_of_38 : decode cX5_of 38 = .ok (.lload_n 3, 1) := by decide +kernel
theorem dX5_of_39 : decode cX5_of 39 = .ok (.lreturn, 1) := by decide +kernel
theorem dX5_with_0 : decode cX5_with 0 = .ok (.lload_n 0, 1) := by decide +kernel
theorem dX5_with_1 : decode cX5_with 1 = .ok (.iload_n 3, 1) := by decide +kernel
theorem dX5_with_2 : decode cX5_with 2 = .ok (.i2l, 1) := by decide +kernel
theorem dX5_with_3 : decode cX5_with 3 = .ok (.iload_n 2, 1) := by decide +kernel
theorem dX5_with_4 : decode cX5_with 4 = .ok (.bipush 12, 2) := by decide +kernel
theorem dX5_with_6 : decode cX5_with 6 = .ok (.imul, 1) := by decide +kernel
theorem dX5_with_7 : decode cX5_with 7 = .ok (.lshl, 1) := by decide +kernel
theorem dX5_with_8 : decode cX5_with 8 = .ok (.lor, 1) := by decide +kernel
theorem dX5_with_9 : decode cX5_with 9 = .ok (.lreturn, 1) := by decide +kernel
theorem dX5_strokeOf_0 : decode cX5_strokeOf 0 = .ok (.lload_n 0, 1) := by decide +kernel
theorem dX5_strokeOf_1 : decode cX5_strokeOf 1 = .ok (.iload_n 2, 1) := by decide +kernel
theorem dX5_strokeOf_2 : decode cX5_strokeOf 2 = .ok (.bipush 12, 2) := by decide +kernel
theorem dX5_strokeOf_4 : decode cX5_strokeOf 4 = .ok (.imul, 1) := by decide +kernel
theorem dX5_strokeOf_5 : decode cX5_strokeOf 5 = .ok (.lushr, 1) := by decide +kernel
theorem dX5_strokeOf_6 : decode cX5_strokeOf 6 = .ok (.l2i, 1) := by decide +kernel
theorem dX5_strokeOf_7 : decode cX5_strokeOf 7 = .ok (.sipush 4095, 3) := by decide +kernel
theorem dX5_strokeOf_10 : decode cX5_strokeOf 10 = .ok (.iand, 1) := by decide +kernel
theorem dX5_strokeOf_11 : decode cX5_strokeOf 11 = .ok (.ireturn, 1) := by decide +kernel
set_option maxRecDepth 20000 in
theorem ggX5_length_X5_strokeOf : GoodIn wsX5_length wsX5_strokeOf := goodIn_r _ [4] (by decide +kernel) (by decide +kernel)
set_option maxRecDepth 20000 in
theorem gX5_length_X5_strokeOf : GoodIn wsX5_length (va_wsS RX5 21 yX5_strokeOf wsX5_strokeOf) := goodIn_app (goodIn_of _ (by decide +kernel)) ggX5_length_X5_strokeOf
theorem dX5_length_0 : decode cX5_length 0 = .ok (.iconst 0, 1) := by decide +kernel
theorem dX5_length_1 : decode cX5_length 1 = .ok (.istore_n 2, 1) := by decide +kernel
theorem dX5_length_2 : decode cX5_length 2 = .ok (.iconst 0, 1) := by decide +kernel
theorem dX5_length_3 : decode cX5_length 3 = .ok (.istore_n 3, 1) := by decide +kernel
theorem dX5_length_4 : decode cX5_length 4 = .ok (.iload_n 3, 1) := by decide +kernel
theorem dX5_length_5 : decode cX5_length 5 = .ok (.iconst 4, 1) := by decide +kernel
theorem dX5_length_6 : decode cX5_length 6 = .ok (.if_icmp .ge 20, 3) := by decide +kernel
theorem dX5_length_9 : decode cX5_length 9 = .ok (.lload_n 0, 1) := by decide +kernel
theorem dX5_length_10 : decode cX5_length 10 = .ok (.iload_n 3, 1) := by decide +kernel
theorem dX5_length_11 : decode cX5_length 11 = .ok (.invokestatic 21, 3) := by decide +kernel
theorem dX5_length_14 : decode cX5_length 14 = .ok (.ifCond .eq 6, 3) := by decide +kernel
theorem dX5_length_17 : decode cX5_length 17 = .ok (.iinc 2 1, 3) := by decide +kernel
theorem dX5_length_20 : decode cX5_length 20 = .ok (.iinc 3 1, 3) := by decide +kernel
theorem dX5_length_23 : decode cX5_length 23 = .ok (.goto (-19), 3) := by decide +kernel
theorem dX5_length_26 : decode cX5_length 26 = .ok (.iload_n 2, 1) := by decide +kernel
theorem dX5_length_27 : decode cX5_length 27 = .ok (.ireturn, 1) := by decide +kernel
theorem dX5_beginning_0 : decode cX5_beginning 0 = .ok (.lload_n 0, 1) := by decide +kernel
theorem dX5_beginning_1 : decode cX5_beginning 1 = .ok (.lconst 1, 1) := by decide +kernel
theorem dX5_beginning_2 : decode cX5_beginning 2 = .ok (.iload_n 2, 1) := by decide +kernel
theorem dX5_beginning_3 : decode cX5_beginning 3 = .ok (.bipush 12, 2) := by decide +kernel
theorem dX5_beginning_5 : decode cX5_beginning 5 = .ok (.imul, 1) := by decide +kernel
theorem dX5_beginning_6 : decode cX5_beginning 6 = .ok (.lshl, 1) := by decide +kernel
theorem dX5_beginning_7 : decode cX5_beginning 7 = .ok (.lconst 1, 1) := by decide +kernel
theorem dX5_beginning_8 : decode cX5_beginning 8 = .ok (.lsub, 1) := by decide +kernel
theorem dX5_beginning_9 : decode cX5_beginning 9 = .ok (.land, 1) := by decide +kernel
theorem dX5_beginning_10 : decode cX5_beginning 10 = .ok (.lreturn, 1) := by decide +kernel
theorem dX5_rest_0 : decode cX5_rest 0 = .ok (.lload_n 0, 1) := by decide +kernel
theorem dX5_rest_1 : decode cX5_rest 1 = .ok (.iload_n 2, 1) := by decide +kernel
theorem dX5_rest_2 : decode cX5_rest 2 = .ok (.bipush 12, 2) := by decide +kernel
theorem dX5_rest_4 : decode cX5_rest 4 = .ok (.imul, 1) := by decide +kernel
theorem dX5_rest_5 : decode cX5_rest 5 = .ok (.lushr, 1) := by decide +kernel
theorem dX5_rest_6 : decode cX5_rest 6 = .ok (.lreturn, 1) := by decide +kernel
theorem dX6_at_0 : decode cX6_at 0 = .ok (.iload_n 1, 1) := by decide +kernel
theorem dX6_at_1 : decode cX6_at 1 = .ok (.ifCond .lt 15, 3) := by decide +kernel
theorem dX6_at_4 : decode cX6_at 4 = .ok (.iload_n 1, 1) := by decide +kernel
theorem dX6_at_5 : decode cX6_at 5 = .ok (.aload_n 0, 1) := by decide +kernel
theorem dX6_at_6 : decode cX6_at 6 = .ok (.arraylength, 1) := by decide +kernel
theorem dX6_at_7 : decode cX6_at 7 = .ok (.if_icmp .ge 9, 3) := by decide +kernel
theorem dX6_at_10 : decode cX6_at 10 = .ok (.aload_n 0, 1) := by decide +kernel
theorem dX6_at_11 : decode cX6_at 11 = .ok (.iload_n 1, 1) := by decide +kernel
theorem dX6_at_12 : decode cX6_at 12 = .ok (.iaload, 1) := by decide +kernel
theorem dX6_at_13 : decode cX6_at 13 = .ok (.goto 4, 3) := by decide +kernel
theorem dX6_at_16 : decode cX6_at 16 = .ok (.iconst 0, 1) := by decide +kernel
theorem dX6_at_17 : decode cX6_at 17 = .ok (.ireturn, 1) := by decide +kernel
theorem dX6_at__0 : decode cX6_at_ 0 = .ok (.iload_n 1, 1) := by decide +kernel
theorem dX6_at__1 : decode cX6_at_ 1 = .ok (.ifCond .lt 15, 3) := by decide +kernel
theorem dX6_at__4 : decode cX6_at_ 4 = .ok (.iload_n 1, 1) := by decide +kernel
theorem dX6_at__5 : decode cX6_at_ 5 = .ok (.aload_n 0, 1) := by decide +kernel
theorem dX6_at__6 : decode cX6_at_ 6 = .ok (.arraylength, 1) := by decide +kernel
theorem dX6_at__7 : decode cX6_at_ 7 = .ok (.if_icmp .ge 9, 3) := by decide +kernel
theorem dX6_at__10 : decode cX6_at_ 10 = .ok (.aload_n 0, 1) := by decide +kernel
theorem dX6_at__11 : decode cX6_at_ 11 = .ok (.iload_n 1, 1) := by decide +kernel
theorem dX6_at__12 : decode cX6_at_ 12 = .ok (.laload, 1) := by decide +kernel
theorem dX6_at__13 : decode cX6_at_ 13 = .ok (.goto 4, 3) := by decide +kernel
theorem dX6_at__16 : decode cX6_at_ 16 = .ok (.lconst 0, 1) := by decide +kernel
theorem dX6_at__17 : decode cX6_at_ 17 = .ok (.lreturn, 1) := by decide +kernel
theorem dX6_put_0 : decode cX6_put 0 = .ok (.iload_n 1, 1) := by decide +kernel
theorem dX6_put_1 : decode cX6_put 1 = .ok (.ifCond .lt 13, 3) := by decide +kernel
theorem dX6_put_4 : decode cX6_put 4 = .ok (.iload_n 1, 1) := by decide +kernel
theorem dX6_put_5 : decode cX6_put 5 = .ok (.aload_n 0, 1) := by decide +kernel
theorem dX6_put_6 : decode cX6_put 6 = .ok (.arraylength, 1) := by decide +kernel
theorem dX6_put_7 : decode cX6_put 7 = .ok (.if_icmp .ge 7, 3) := by decide +kernel
theorem dX6_put_10 : decode cX6_put 10 = .ok (.aload_n 0, 1) := by decide +kernel
theorem dX6_put_11 : decode cX6_put 11 = .ok (.iload_n 1, 1) := by decide +kernel
theorem dX6_put_12 : decode cX6_put 12 = .ok (.iload_n 2, 1) := by decide +kernel
theorem dX6_put_13 : decode cX6_put 13 = .ok (.iastore, 1) := by decide +kernel
theorem dX6_put_14 : decode cX6_put 14 = .ok (.return_, 1) := by decide +kernel
theorem dX6_put__0 : decode cX6_put_ 0 = .ok (.iload_n 1, 1) := by decide +kernel
theorem dX6_put__1 : decode cX6_put_ 1 = .ok (.ifCond .lt 13, 3) := by decide +kernel
theorem dX6_put__4 : decode cX6_put_ 4 = .ok (.iload_n 1, 1) := by decide +kernel
theorem dX6_put__5 : decode cX6_put_ 5 = .ok (.aload_n 0, 1) := by decide +kernel
theorem dX6_put__6 : decode cX6_put_ 6 = .ok (.arraylength, 1) := by decide +kernel
theorem dX6_put__7 : decode cX6_put_ 7 = .ok (.if_icmp .ge 7, 3) := by decide +kernel
theorem dX6_put__10 : decode cX6_put_ 10 = .ok (.aload_n 0, 1) := by decide +kernel
theorem dX6_put__11 : decode cX6_put_ 11 = .ok (.iload_n 1, 1) := by decide +kernel
theorem dX6_put__12 : decode cX6_put_ 12 = .ok (.lload_n 2, 1) := by decide +kernel
theorem dX6_put__13 : decode cX6_put_ 13 = .ok (.lastore, 1) := by decide +kernel
theorem dX6_put__14 : decode cX6_put_ 14 = .ok (.return_, 1) := by decide +kernel
theorem dX6_copy_0 : decode cX6_copy 0 = .ok (.aload_n 0, 1) := by decide +kernel
theorem dX6_copy_1 : decode cX6_copy 1 = .ok (.iconst 0, 1) := by decide +kernel
theorem dX6_copy_2 : decode cX6_copy 2 = .ok (.aload_n 1, 1) := by decide +kernel
theorem dX6_copy_3 : decode cX6_copy 3 = .ok (.iconst 0, 1) := by decide +kernel
theorem dX6_copy_4 : decode cX6_copy 4 = .ok (.aload_n 0, 1) := by decide +kernel
theorem dX6_copy_5 : decode cX6_copy 5 = .ok (.arraylength, 1) := by decide +kernel
theorem dX6_copy_6 : decode cX6_copy 6 = .ok (.aload_n 1, 1) := by decide +kernel
theorem dX6_copy_7 : decode cX6_copy 7 = .ok (.arraylength, 1) := by decide +kernel
theorem dX6_copy_8 : decode cX6_copy 8 = .ok (.invokestatic 7, 3) := by decide +kernel
theorem dX6_copy_11 : decode cX6_copy 11 = .ok (.invokestatic 13, 3) := by decide +kernel
theorem dX6_copy_14 : decode cX6_copy 14 = .ok (.return_, 1) := by decide +kernel
theorem dX6_copy__0 : decode cX6_copy_ 0 = .ok (.aload_n 0, 1) := by decide +kernel
theorem dX6_copy__1 : decode cX6_copy_ 1 = .ok (.iconst 0, 1) := by decide +kernel
theorem dX6_copy__2 : decode cX6_copy_ 2 = .ok (.aload_n 1, 1) := by decide +kernel
theorem dX6_copy__3 : decode cX6_copy_ 3 = .ok (.iconst 0, 1) := by decide +kernel
theorem dX6_copy__4 : decode cX6_copy_ 4 = .ok (.aload_n 0, 1) := by decide +kernel
theorem dX6_copy__5 : decode cX6_copy_ 5 = .ok (.arraylength, 1) := by decide +kernel
theorem dX6_copy__6 : decode cX6_copy_ 6 = .ok (.aload_n 1, 1) := by decide +kernel
theorem dX6_copy__7 : decode cX6_copy_ 7 = .ok (.arraylength, 1) := by decide +kernel
theorem dX6_copy__8 : decode cX6_copy_ 8 = .ok (.invokestatic 7, 3) := by decide +kernel
theorem dX6_copy__11 : decode cX6_copy_ 11 = .ok (.invokestatic 13, 3) := by decide +kernel
theorem dX6_copy__14 : decode cX6_copy_ 14 = .ok (.return_, 1) := by decide +kernel
theorem dX7_init_0 : decode cX7_init 0 = .ok (.aload_n 0, 1) := by decide +kernel
theorem dX7_init_1 : decode cX7_init 1 = .ok (.invokespecial 3, 3) := by decide +kernel
theorem dX7_init_4 : decode cX7_init 4 = .ok (.aload_n 0, 1) := by decide +kernel
theorem dX7_init_5 : decode cX7_init 5 = .ok (.bipush 61, 2) := by decide +kernel
theorem dX7_init_7 : decode cX7_init 7 = .ok (.newarray .int, 2) := by decide +kernel
theorem dX7_init_9 : decode cX7_init 9 = .ok (.putfield 11, 3) := by decide +kernel
theorem dX7_init_12 : decode cX7_init 12 = .ok (.aload_n 0, 1) := by decide +kernel
theorem dX7_init_13 : decode cX7_init 13 = .ok (.bipush 61, 2) := by decide +kernel
theorem dX7_init_15 : decode cX7_init 15 = .ok (.newarray .int, 2) := by decide +kernel
theorem dX7_init_17 : decode cX7_init 17 = .ok (.putfield 15, 3) := by decide +kernel
theorem dX7_init_20 : decode cX7_init 20 = .ok (.aload_n 0, 1) := by decide +kernel
theorem dX7_init_21 : decode cX7_init 21 = .ok (.bipush 61, 2) := by decide +kernel
theorem dX7_init_23 : decode cX7_init 23 = .ok (.newarray .int, 2) := by decide +kernel
theorem dX7_init_25 : decode cX7_init 25 = .ok (.putfield 18, 3) := by decide +kernel
theorem dX7_init_28 : decode cX7_init 28 = .ok (.aload_n 0, 1) := by decide +kernel
theorem dX7_init_29 : decode cX7_init 29 = .ok (.bipush 61, 2) := by decide +kernel
theorem dX7_init_31 : decode cX7_init 31 = .ok (.newarray .long, 2) := by decide +kernel
theorem dX7_init_33 : decode cX7_init 33 = .ok (.putfield 21, 3) := by decide +kernel
theorem dX7_init_36 : decode cX7_init 36 = .ok (.aload_n 0, 1) := by decide +kernel
theorem dX7_init_37 : decode cX7_init 37 = .ok (.iconst 0, 1) := by decide +kernel
theorem dX7_init_38 : decode cX7_init 38 = .ok (.putfield 25, 3) := by decide +kernel
theorem dX7_init_41 : decode cX7_init 41 = .ok (.aload_n 0, 1) := by decide +kernel
theorem dX7_init_42 : decode cX7_init 42 = .ok (.iconst 0, 1) := by decide +kernel
theorem dX7_init_43 : decode cX7_init 43 = .ok (.putfield 29, 3) := by decide +kernel
theorem dX7_init_46 : decode cX7_init 46 = .ok (.aload_n 0, 1) := by decide +kernel
theorem dX7_init_47 : decode cX7_init 47 = .ok (.iconst 0, 1) := by decide +kernel
theorem dX7_init_48 : decode cX7_init 48 = .ok (.putfield 32, 3) := by decide +kernel
theorem dX7_init_51 : decode cX7_init 51 = .ok (.aload_n 0, 1) := by decide +kernel
theorem dX7_init_52 : decode cX7_init 52 = .ok (.iconst 0, 1) := by decide +kernel
theorem dX7_init_53 : decode cX7_init 53 = .ok (.putfield 35, 3) := by decide +kernel
theorem dX7_init_56 : decode cX7_init 56 = .ok (.aload_n 0, 1) := by decide +kernel
theorem dX7_init_57 : decode cX7_init 57 = .ok (.bipush 8, 2) := by decide +kernel
theorem dX7_init_59 : decode cX7_init 59 = .ok (.putfield 38, 3) := by decide +kernel
theorem dX7_init_62 : decode cX7_init 62 = .ok (.return_, 1) := by decide +kernel
set_option maxRecDepth 20000 in
theorem ggX7_copyFrom_X6_copy : GoodIn wsX7_copyFrom wsX6_copy := goodIn_r _ [13, 14, 15, 16, 17, 18, 19, 20, 21] (by decide +kernel) (by decide +kernel)
set_option maxRecDepth 20000 in
theorem gX7_copyFrom_X6_copy : GoodIn wsX7_copyFrom (va_wsS RX7 41 yX6_copy wsX6_copy) := goodIn_app (goodIn_of _ (by decide +kernel)) ggX7_copyFrom_X6_copy
set_option maxRecDepth 20000 in
theorem ggX7_copyFrom_X6_copy_ : GoodIn wsX7_copyFrom wsX6_copy_ := goodIn_r _ [24, 14, 15, 16, 17, 18, 19, 20, 21] (by decide +kernel) (by decide +kernel)
set_option maxRecDepth 20000 in
theorem gX7_copyFrom_X6_copy_ : GoodIn wsX7_copyFrom (va_wsS RX7 47 yX6_copy_ wsX6_copy_) := goodIn_app (goodIn_of _ (by decide +kernel)) ggX7_copyFrom_X6_copy_
theorem dX7_copyFrom_0 : decode cX7_copyFrom 0 = .ok (.aload_n 1, 1) := by decide +kernel
theorem dX7_copyFrom_1 : decode cX7_copyFrom 1 = .ok (.getfield 11, 3) := by decide +kernel
theorem dX7_copyFrom_4 : decode cX7_copyFrom 4 = .ok (.aload_n 0, 1) := by decide +kernel
theorem dX7_copyFrom_5 : decode cX7_copyFrom 5 = .ok (.getfield 11, 3) := by decide +kernel
theorem dX7_copyFrom_8 : decode cX7_copyFrom 8 = .ok (.invokestatic 41, 3) := by decide +kernel
theorem dX7_copyFrom_11 : decode cX7_copyFrom 11 = .ok (.aload_n 1, 1) := by decide +kernel
theorem dX7_copyFrom_12 : decode cX7_copyFrom 12 = .ok (.getfield 15, 3) := by decide +kernel
theorem dX7_copyFrom_15 : decode cX7_copyFrom 15 = .ok (.aload_n 0, 1) := by decide +kernel
theorem dX7_copyFrom_16 : decode cX7_copyFrom 16 = .ok (.getfield 15, 3) := by decide +kernel
theorem dX7_copyFrom_19 : decode cX7_copyFrom 19 = .ok (.invokestatic 41, 3) := by decide +kernel
theorem dX7_copyFrom_22 : decode cX7_copyFrom 22 = .ok (.aload_n 1, 1) := by decide +kernel
theorem dX7_copyFrom_23 : decode cX7_copyFrom 23 = .ok (.getfield 18, 3) := by decide +kernel
theorem dX7_copyFrom_26 : decode cX7_copyFrom 26 = .ok (.aload_n 0, 1) := by decide +kernel
theorem dX7_copyFrom_27 : decode cX7_copyFrom 27 = .ok (.getfield 18, 3) := by decide +kernel
theorem dX7_copyFrom_30 : decode cX7_copyFrom 30 = .ok (.invokestatic 41, 3) := by decide +kernel
theorem dX7_copyFrom_33 : decode cX7_copyFrom 33 = .ok (.aload_n 1, 1) := by decide +kernel
theorem dX7_copyFrom_34 : decode cX7_copyFrom 34 = .ok (.getfield 21, 3) := by decide +kernel
theorem dX7_copyFrom_37 : decode cX7_copyFrom 37 = .ok (.aload_n 0, 1) := by decide +kernel
theorem dX7_copyFrom_38 : decode cX7_copyFrom 38 = .ok (.getfield 21, 3) := by decide +kernel
theorem dX7_copyFrom_41 : decode cX7_copyFrom 41 = .ok (.invokestatic 47, 3) := by decide +kernel
theorem dX7_copyFrom_44 : decode cX7_copyFrom 44 = .ok (.aload_n 0, 1) := by decide +kernel
theorem dX7_copyFrom_45 : decode cX7_copyFrom 45 = .ok (.aload_n 1, 1) := by decide +kernel
theorem dX7_copyFrom_46 : decode cX7_copyFrom 46 = .ok (.getfield 25, 3) := by decide +kernel
theorem dX7_copyFrom_49 : decode cX7_copyFrom 49 = .ok (.putfield 25, 3) := by decide +kernel
theorem dX7_copyFrom_52 : decode cX7_copyFrom 52 = .ok (.aload_n 0, 1) := by decide +kernel
theorem dX7_copyFrom_53 : decode cX7_copyFrom 53 = .ok (.aload_n 1, 1) := by decide +kernel
theorem dX7_copyFrom_54 : decode cX7_copyFrom 54 = .ok (.getfield 29, 3) := by decide +kernel
theorem dX7_copyFrom_57 : decode cX7_copyFrom 57 = .ok (.putfield 29, 3) := by decide +kernel
theorem dX7_copyFrom_60 : decode cX7_copyFrom 60 = .ok (.aload_n 0, 1) := by decide +kernel
theorem dX7_copyFrom_61 : decode cX7_copyFrom 61 = .ok (.aload_n 1, 1) := by decide +kernel
theorem dX7_copyFrom_62 : decode cX7_copyFrom 62 = .ok (.getfield 32, 3) := by decide +kernel
theorem dX7_copyFrom_65 : decode cX7_copyFrom 65 = .ok (.putfield 32, 3) := by decide +kernel
theorem dX7_copyFrom_68 : decode cX7_copyFrom 68 = .ok (.aload_n 0, 1) := by decide +kernel
theorem dX7_copyFrom_69 : decode cX7_copyFrom 69 = .ok (.aload_n 1, 1) := by decide +kernel
theorem dX7_copyFrom_70 : decode cX7_copyFrom 70 = .ok (.getfield 35, 3) := by decide +kernel
theorem dX7_copyFrom_73 : decode cX7_copyFrom 73 = .ok (.putfield 35, 3) := by decide +kernel
theorem dX7_copyFrom_76 : decode cX7_copyFrom 76 = .ok (.aload_n 0, 1) := by decide +kernel
theorem dX7_copyFrom_77 : decode cX7_copyFrom 77 = .ok (.aload_n 1, 1) := by decide +kernel
theorem dX7_copyFrom_78 : decode cX7_copyFrom 78 = .ok (.getfield 38, 3) := by decide +kernel
theorem dX7_copyFrom_81 : decode cX7_copyFrom 81 = .ok (.putfield 38, 3) := by decide +kernel
theorem dX7_copyFrom_84 : decode cX7_copyFrom 84 = .ok (.return_, 1) := by decide +kernel
set_option maxRecDepth 20000 in
theorem ggX7_add_X6_put : GoodIn wsX7_add wsX6_put := goodIn_r _ [6] (by decide +kernel) (by decide +kernel)
set_option maxRecDepth 20000 in
theorem gX7_add_X6_put : GoodIn wsX7_add (va_wsS RX7 50 yX6_put wsX6_put) := goodIn_app (goodIn_of _ (by decide +kernel)) ggX7_add_X6_put
theorem dX7_add_0 : decode cX7_add 0 = .ok (.aload_n 0, 1) := by decide +kernel
theorem dX7_add_1 : decode cX7_add 1 = .ok (.getfield 11, 3) := by decide +kernel
theorem dX7_add_4 : decode cX7_add 4 = .ok (.aload_n 0, 1) := by decide +kernel
theorem dX7_add_5 : decode cX7_add 5 = .ok (.getfield 25, 3) := by decide +kernel
theorem dX7_add_8 : decode cX7_add 8 = .ok (.iload_n 1, 1) := by decide +kernel
theorem dX7_add_9 : decode cX7_add 9 = .ok (.invokestatic 50, 3) := by decide +kernel
theorem dX7_add_12 : decode cX7_add 12 = .ok (.aload_n 0, 1) := by decide +kernel
theorem dX7_add_13 : decode cX7_add 13 = .ok (.dup, 1) := by decide +kernel
theorem dX7_add_14 : decode cX7_add 14 = .ok (.getfield 25, 3) := by decide +kernel
theorem dX7_add_17 : decode cX7_add 17 = .ok (.iconst 1, 1) := by decide +kernel
theorem dX7_add_18 : decode cX7_add 18 = .ok (.iadd, 1) := by decide +kernel
theorem dX7_add_19 : decode cX7_add 19 = .ok (.putfield 25, 3) := by decide +kernel
theorem dX7_add_22 : decode cX7_add 22 = .ok (.return_, 1) := by decide +kernel
set_option maxRecDepth 20000 in
theorem ggX7_dropLast_X7_openStrokes : GoodIn wsX7_dropLast wsX7_openStrokes := goodIn_r _ [9, 4, 3, 14, 15, 16, 17, 18, 19, 20, 21, 22] (by decide +kernel) (by decide +kernel)
set_option maxRecDepth 20000 in
theorem gX7_dropLast_X7_openStrokes : GoodIn wsX7_dropLast (wsV RX7 54 RX7 yX7_openStrokes wsX7_openStrokes) := goodIn_app (goodIn_of _ (by decide +kernel)) ggX7_dropLast_X7_openStrokes
set_option maxRecDepth 20000 in
theorem ggX7_dropLast_X6_at : GoodIn wsX7_dropLast wsX6_at := goodIn_r _ [13] (by decide +kernel) (by decide +kernel)
set_option maxRecDepth 20000 in
theorem gX7_dropLast_X6_at : GoodIn wsX7_dropLast (va_wsS RX7 58 yX6_at wsX6_at) := goodIn_app (goodIn_of _ (by decide +kernel)) ggX7_dropLast_X6_at
theorem dX7_dropLast_0 : decode cX7_dropLast 0 = .ok (.aload_n 0, 1) := by decide +kernel
theorem dX7_dropLast_1 : decode cX7_dropLast 1 = .ok (.invokevirtual 54, 3) := by decide +kernel
theorem dX7_dropLast_4 : decode cX7_dropLast 4 = .ok (.ifCond .ne 28, 3) := by decide +kernel
theorem dX7_dropLast_7 : decode cX7_dropLast 7 = .ok (.aload_n 0, 1) := by decide +kernel
theorem dX7_dropLast_8 : decode cX7_dropLast 8 = .ok (.dup, 1) := by decide +kernel
theorem dX7_dropLast_9 : decode cX7_dropLast 9 = .ok (.getfield 32, 3) := by decide +kernel
theorem dX7_dropLast_12 : decode cX7_dropLast 12 = .ok (.iconst 1, 1) := by decide +kernel
theorem dX7_dropLast_13 : decode cX7_dropLast 13 = .ok (.isub, 1) := by decide +kernel
theorem dX7_dropLast_14 : decode cX7_dropLast 14 = .ok (.putfield 32, 3) := by decide +kernel
theorem dX7_dropLast_17 : decode cX7_dropLast 17 = .ok (.aload_n 0, 1) := by decide +kernel
theorem dX7_dropLast_18 : decode cX7_dropLast 18 = .ok (.aload_n 0, 1) := by decide +kernel
theorem dX7_dropLast_19 : decode cX7_dropLast 19 = .ok (.getfield 15, 3) := by decide +kernel
theorem dX7_dropLast_22 : decode cX7_dropLast 22 = .ok (.aload_n 0, 1) := by decide +kernel
theorem dX7_dropLast_23 : decode cX7_dropLast 23 = .ok (.getfield 32, 3) := by decide +kernel
theorem dX7_dropLast_26 : decode cX7_dropLast 26 = .ok (.invokestatic 58, 3) := by decide +kernel
theorem dX7_dropLast_29 : decode cX7_dropLast 29 = .ok (.putfield 35, 3) := by decide +kernel
theorem dX7_dropLast_32 : decode cX7_dropLast 32 = .ok (.aload_n 0, 1) := by decide +kernel
theorem dX7_dropLast_33 : decode cX7_dropLast 33 = .ok (.dup, 1) := by decide +kernel
theorem dX7_dropLast_34 : decode cX7_dropLast 34 = .ok (.getfield 25, 3) := by decide +kernel
theorem dX7_dropLast_37 : decode cX7_dropLast 37 = .ok (.iconst 1, 1) := by decide +kernel
theorem dX7_dropLast_38 : decode cX7_dropLast 38 = .ok (.isub, 1) := by decide +kernel
theorem dX7_dropLast_39 : decode cX7_dropLast 39 = .ok (.putfield 25, 3) := by decide +kernel
theorem dX7_dropLast_42 : decode cX7_dropLast 42 = .ok (.return_, 1) := by decide +kernel
set_option maxRecDepth 20000 in
theorem ggX7_translate_X1_longestAt : GoodIn wsX7_translate wsX1_longestAt := goodIn_r _ [14, 15, 16, 17, 18, 19, 20, 21, 22, 23, 24, 25, 26, 27, 28, 29, 30, 31, 32, 33, 34, 35, 13, 36, 37, 38, 39, 40, 41, 86, 87, 88] (by decide +kernel) (by decide +kernel)
set_option maxRecDepth 20000 in
theorem gX7_translate_X1_longestAt : GoodIn wsX7_translate (wsV RX7 62 RX1 yX1_longestAt wsX1_longestAt) := goodIn_app (goodIn_of _ (by decide +kernel)) ggX7_translate_X1_longestAt
set_option maxRecDepth 20000 in
theorem ggX7_translate_X6_put : GoodIn wsX7_translate wsX6_put := goodIn_r _ [44] (by decide +kernel) (by decide +kernel)
set_option maxRecDepth 20000 in
theorem gX7_translate_X6_put : GoodIn wsX7_translate (va_wsS RX7 50 yX6_put wsX6_put) := goodIn_app (goodIn_of _ (by decide +kernel)) ggX7_translate_X6_put
set_option maxRecDepth 20000 in
theorem ggX7_translate_X1_wordOf : GoodIn wsX7_translate wsX1_wordOf := goodIn_r _ [48, 49, 39, 40, 25, 41, 86, 87, 88] (by decide +kernel) (by decide +kernel)
set_option maxRecDepth 20000 in
theorem gX7_translate_X1_wordOf : GoodIn wsX7_translate (wsV RX7 68 RX1 yX1_wordOf wsX1_wordOf) := goodIn_app (goodIn_of _ (by decide +kernel)) ggX7_translate_X1_wordOf
set_option maxRecDepth 20000 in
theorem ggX7_translate_X6_put_ : GoodIn wsX7_translate wsX6_put_ := goodIn_r _ [52] (by decide +kernel) (by decide +kernel)
set_option maxRecDepth 20000 in
theorem gX7_translate_X6_put_ : GoodIn wsX7_translate (va_wsS RX7 72 yX6_put_ wsX6_put_) := goodIn_app (goodIn_of _ (by decide +kernel)) ggX7_translate_X6_put_
set_option maxRecDepth 20000 in
theorem ggX7_translate_X1_outlineOf : GoodIn wsX7_translate wsX1_outlineOf := goodIn_r _ [56, 38, 39, 40, 25, 41, 86, 87, 88] (by decide +kernel) (by decide +kernel)
set_option maxRecDepth 20000 in
theorem gX7_translate_X1_outlineOf : GoodIn wsX7_translate (wsV RX7 75 RX1 yX1_outlineOf wsX1_outlineOf) := goodIn_app (goodIn_of _ (by decide +kernel)) ggX7_translate_X1_outlineOf
set_option maxRecDepth 20000 in
theorem ggX7_translate_X5_length : GoodIn wsX7_translate wsX5_length := goodIn_r _ [59, 60, 61, 21, 62] (by decide +kernel) (by decide +kernel)
set_option maxRecDepth 20000 in
theorem gX7_translate_X5_length : GoodIn wsX7_translate (va_wsS RX7 78 yX5_length wsX5_length) := goodIn_app (goodIn_of _ (by decide +kernel)) ggX7_translate_X5_length
set_option maxRecDepth 20000 in
theorem ggX7_translate_X7_fixDownTo : GoodIn wsX7_translate wsX7_fixDownTo := goodIn_r _ [67, 7, 1, 3, 68, 69, 70, 66, 71, 4, 42, 43, 25, 44, 72, 73, 74, 75, 2, 6, 76, 24, 26, 77, 78, 79, 80, 81, 82, 83, 84, 85] (by decide +kernel) (by decide +kernel)
set_option maxRecDepth 20000 in
theorem gX7_translate_X7_fixDownTo : GoodIn wsX7_translate (wsV RX7 84 RX7 yX7_fixDownTo wsX7_fixDownTo) := goodIn_app (goodIn_of _ (by decide +kernel)) ggX7_translate_X7_fixDownTo
theorem dX7_translate_0 : decode cX7_translate 0 = .ok (.aload_n 0, 1) := by decide +kernel
theorem dX7_translate_1 : decode cX7_translate 1 = .ok (.aload_n 0, 1) := by decide +kernel
theorem dX7_translate_2 : decode cX7_translate 2 = .ok (.getfield 32, 3) := by decide +kernel
theorem dX7_translate_5 : decode cX7_translate 5 = .ok (.putfield 29, 3) := by decide +kernel
theorem dX7_translate_8 : decode cX7_translate 8 = .ok (.aload_n 0, 1) := by decide +kernel
theorem dX7_translate_9 : decode cX7_translate 9 = .ok (.getfield 35, 3) := by decide +kernel
theorem dX7_translate_12 : decode cX7_translate 12 = .ok (.istore_n 2, 1) := by decide +kernel
theorem dX7_translate_13 : decode cX7_translate 13 = .ok (.iconst 0, 1) := by decide +kernel
theorem dX7_translate_14 : decode cX7_translate 14 = .ok (.istore_n 3, 1) := by decide +kernel
theorem dX7_translate_15 : decode cX7_translate 15 = .ok (.iload_n 3, 1) := by decide +kernel
theorem dX7_translate_16 : decode cX7_translate 16 = .ok (.bipush 61, 2) := by decide +kernel
theorem dX7_translate_18 : decode cX7_translate 18 = .ok (.if_icmp .ge 116, 3) := by decide +kernel
theorem dX7_translate_21 : decode cX7_translate 21 = .ok (.iload_n 2, 1) := by decide +kernel
theorem dX7_translate_22 : decode cX7_translate 22 = .ok (.aload_n 0, 1) := by decide +kernel
theorem dX7_translate_23 : decode cX7_translate 23 = .ok (.getfield 25, 3) := by decide +kernel
theorem dX7_translate_26 : decode cX7_translate 26 = .ok (.if_icmp .ge 108, 3) := by decide +kernel
theorem dX7_translate_29 : decode cX7_translate 29 = .ok (.aload_n 1, 1) := by decide +kernel
theorem dX7_translate_30 : decode cX7_translate 30 = .ok (.aload_n 0, 1) := by decide +kernel
theorem dX7_translate_31 : decode cX7_translate 31 = .ok (.getfield 11, 3) := by decide +kernel
theorem dX7_translate_34 : decode cX7_translate 34 = .ok (.iload_n 2, 1) := by decide +kernel
theorem dX7_translate_35 : decode cX7_translate 35 = .ok (.aload_n 0, 1) := by decide +kernel
theorem dX7_translate_36 : decode cX7_translate 36 = .ok (.getfield 25, 3) := by decide +kernel
theorem dX7_translate_39 : decode cX7_translate 39 = .ok (.invokevirtual 62, 3) := by decide +kernel
theorem dX7_translate_42 : decode cX7_translate 42 = .ok (.istore 4, 2) := by decide +kernel
theorem dX7_translate_44 : decode cX7_translate 44 = .ok (.aload_n 0, 1) := by decide +kernel
theorem dX7_translate_45 : decode cX7_translate 45 = .ok (.getfield 15, 3) := by decide +kernel
theorem dX7_translate_48 : decode cX7_translate 48 = .ok (.aload_n 0, 1) := by decide +kernel
theorem dX7_translate_49 : decode cX7_translate 49 = .ok (.getfield 29, 3) := by decide +kernel
theorem dX7_translate_52 : decode cX7_translate 52 = .ok (.iload_n 2, 1) := by decide +kernel
theorem dX7_translate_53 : decode cX7_translate 53 = .ok (.invokestatic 50, 3) := by decide +kernel
theorem dX7_translate_56 : decode cX7_translate 56 = .ok (.aload_n 0, 1) := by decide +kernel
theorem dX7_translate_57 : decode cX7_translate 57 = .ok (.getfield 18, 3) := by decide +kernel
theorem dX7_translate_60 : decode cX7_translate 60 = .ok (.aload_n 0, 1) := by decide +kernel
theorem dX7_translate_61 : decode cX7_translate 61 = .ok (.getfield 29, 3) := by decide +kernel
theorem dX7_translate_64 : decode cX7_translate 64 = .ok (.iload 4, 2) := by decide +kernel
theorem dX7_translate_66 : decode cX7_translate 66 = .ok (.invokestatic 50, 3) := by decide +kernel
theorem dX7_translate_69 : decode cX7_translate 69 = .ok (.aload_n 0, 1) := by decide +kernel
theorem dX7_translate_70 : decode cX7_translate 70 = .ok (.getfield 21, 3) := by decide +kernel
theorem dX7_translate_73 : decode cX7_translate 73 = .ok (.aload_n 0, 1) := by decide +kernel
theorem dX7_translate_74 : decode cX7_translate 74 = .ok (.getfield 29, 3) := by decide +kernel
theorem dX7_translate_77 : decode cX7_translate 77 = .ok (.iload 4, 2) := by decide +kernel
theorem dX7_translate_79 : decode cX7_translate 79 = .ok (.iconst (-1), 1) := by decide +kernel
theorem dX7_translate_80 : decode cX7_translate 80 = .ok (.if_icmp .ne 7, 3) := by decide +kernel
theorem dX7_translate_83 : decode cX7_translate 83 = .ok (.lconst 0, 1) := by decide +kernel
theorem dX7_translate_84 : decode cX7_translate 84 = .ok (.goto 9, 3) := by decide +kernel
theorem dX7_translate_87 : decode cX7_translate 87 = .ok (.aload_n 1, 1) := by decide +kernel
theorem dX7_translate_88 : decode cX7_translate 88 = .ok (.iload 4, 2) := by decide +kernel
theorem dX7_translate_90 : decode cX7_translate 90 = .ok (.invokevirtual 68, 3) := by decide +kernel
theorem dX7_translate_93 : decode cX7_translate 93 = .ok (.invokestatic 72, 3) := by decide +kernel
theorem dX7_translate_96 : decode cX7_translate 96 = .ok (.aload_n 0, 1) := by decide +kernel
theorem dX7_translate_97 : decode cX7_translate 97 = .ok (.dup, 1) := by decide +kernel
theorem dX7_translate_98 : decode cX7_translate 98 = .ok (.getfield 29, 3) := by decide +kernel
theorem dX7_translate_101 : decode cX7_translate 101 = .ok (.iconst 1, 1) := by decide +kernel
theorem dX7_translate_102 : decode cX7_translate 102 = .ok (.iadd, 1) := by decide +kernel
theorem dX7_translate_103 : decode cX7_translate 103 = .ok (.putfield 29, 3) := by decide +kernel
theorem dX7_translate_106 : decode cX7_translate 106 = .ok (.iload_n 2, 1) := by decide +kernel
theorem dX7_translate_107 : decode cX7_translate 107 = .ok (.iload 4, 2) := by decide +kernel
theorem dX7_translate_109 : decode cX7_translate 109 = .ok (.iconst (-1), 1) := by decide +kernel
theorem dX7_translate_110 : decode cX7_translate 110 = .ok (.if_icmp .ne 7, 3) := by decide +kernel
theorem dX7_translate_113 : decode cX7_translate 113 = .ok (.iconst 1, 1) := by decide +kernel
theorem dX7_translate_114 : decode cX7_translate 114 = .ok (.goto 12, 3) := by decide +kernel
theorem dX7_translate_117 : decode cX7_translate 117 = .ok (.aload_n 1, 1) := by decide +kernel
theorem dX7_translate_118 : decode cX7_translate 118 = .ok (.iload 4, 2) := by decide +kernel
theorem dX7_translate_120 : decode cX7_translate 120 = .ok (.invokevirtual 75, 3) := by decide +kernel
theorem dX7_translate_123 : decode cX7_translate 123 = .ok (.invokestatic 78, 3) := by decide +kernel
theorem dX7_translate_126 : decode cX7_translate 126 = .ok (.iadd, 1) := by decide +kernel
theorem dX7_translate_127 : decode cX7_translate 127 = .ok (.istore_n 2, 1) := by decide +kernel
theorem dX7_translate_128 : decode cX7_translate 128 = .ok (.iinc 3 1, 3) := by decide +kernel
theorem dX7_translate_131 : decode cX7_translate 131 = .ok (.goto (-116), 3) := by decide +kernel
theorem dX7_translate_134 : decode cX7_translate 134 = .ok (.aload_n 0, 1) := by decide +kernel
theorem dX7_translate_135 : decode cX7_translate 135 = .ok (.aload_n 0, 1) := by decide +kernel
theorem dX7_translate_136 : decode cX7_translate 136 = .ok (.getfield 38, 3) := by decide +kernel
theorem dX7_translate_139 : decode cX7_translate 139 = .ok (.invokevirtual 84, 3) := by decide +kernel
theorem dX7_translate_142 : decode cX7_translate 142 = .ok (.return_, 1) := by decide +kernel
set_option maxRecDepth 20000 in
theorem ggX7_fixDownTo_X7_openStrokes : GoodIn wsX7_fixDownTo wsX7_openStrokes := goodIn_r _ [8, 9, 3, 23, 24, 25, 26, 27, 28, 29, 30, 31] (by decide +kernel) (by decide +kernel)
set_option maxRecDepth 20000 in
theorem gX7_fixDownTo_X7_openStrokes : GoodIn wsX7_fixDownTo (wsV RX7 54 RX7 yX7_openStrokes wsX7_openStrokes) := goodIn_app (goodIn_of _ (by decide +kernel)) ggX7_fixDownTo_X7_openStrokes
set_option maxRecDepth 20000 in
theorem ggX7_fixDownTo_X6_put : GoodIn wsX7_fixDownTo wsX6_put := goodIn_r _ [13] (by decide +kernel) (by decide +kernel)
set_option maxRecDepth 20000 in
theorem gX7_fixDownTo_X6_put : GoodIn wsX7_fixDownTo (va_wsS RX7 50 yX6_put wsX6_put) := goodIn_app (goodIn_of _ (by decide +kernel)) ggX7_fixDownTo_X6_put
set_option maxRecDepth 20000 in
theorem ggX7_fixDownTo_X7_firstOf : GoodIn wsX7_fixDownTo wsX7_firstOf := goodIn_r _ [17, 18, 19, 9, 20, 21, 12, 22, 23, 24, 25, 26, 27, 28, 29, 30, 31] (by decide +kernel) (by decide +kernel)
set_option maxRecDepth 20000 in
theorem gX7_fixDownTo_X7_firstOf : GoodIn wsX7_fixDownTo (wsV RX7 88 RX7 yX7_firstOf wsX7_firstOf) := goodIn_app (goodIn_of _ (by decide +kernel)) ggX7_fixDownTo_X7_firstOf
theorem dX7_fixDownTo_0 : decode cX7_fixDownTo 0 = .ok (.iconst 0, 1) := by decide +kernel
theorem dX7_fixDownTo_1 : decode cX7_fixDownTo 1 = .ok (.istore_n 2, 1) := by decide +kernel
theorem dX7_fixDownTo_2 : decode cX7_fixDownTo 2 = .ok (.iload_n 2, 1) := by decide +kernel
theorem dX7_fixDownTo_3 : decode cX7_fixDownTo 3 = .ok (.bipush 61, 2) := by decide +kernel
theorem dX7_fixDownTo_5 : decode cX7_fixDownTo 5 = .ok (.if_icmp .ge 51, 3) := by decide +kernel
theorem dX7_fixDownTo_8 : decode cX7_fixDownTo 8 = .ok (.aload_n 0, 1) := by decide +kernel
theorem dX7_fixDownTo_9 : decode cX7_fixDownTo 9 = .ok (.invokevirtual 54, 3) := by decide +kernel
theorem dX7_fixDownTo_12 : decode cX7_fixDownTo 12 = .ok (.iload_n 1, 1) := by decide +kernel
theorem dX7_fixDownTo_13 : decode cX7_fixDownTo 13 = .ok (.if_icmp .le 43, 3) := by decide +kernel
theorem dX7_fixDownTo_16 : decode cX7_fixDownTo 16 = .ok (.aload_n 0, 1) := by decide +kernel
theorem dX7_fixDownTo_17 : decode cX7_fixDownTo 17 = .ok (.getfield 18, 3) := by decide +kernel
theorem dX7_fixDownTo_20 : decode cX7_fixDownTo 20 = .ok (.aload_n 0, 1) := by decide +kernel
theorem dX7_fixDownTo_21 : decode cX7_fixDownTo 21 = .ok (.getfield 32, 3) := by decide +kernel
theorem dX7_fixDownTo_24 : decode cX7_fixDownTo 24 = .ok (.iconst (-1), 1) := by decide +kernel
theorem dX7_fixDownTo_25 : decode cX7_fixDownTo 25 = .ok (.invokestatic 50, 3) := by decide +kernel
theorem dX7_fixDownTo_28 : decode cX7_fixDownTo 28 = .ok (.aload_n 0, 1) := by decide +kernel
theorem dX7_fixDownTo_29 : decode cX7_fixDownTo 29 = .ok (.dup, 1) := by decide +kernel
theorem dX7_fixDownTo_30 : decode cX7_fixDownTo 30 = .ok (.getfield 32, 3) := by decide +kernel
theorem dX7_fixDownTo_33 : decode cX7_fixDownTo 33 = .ok (.iconst 1, 1) := by decide +kernel
theorem dX7_fixDownTo_34 : decode cX7_fixDownTo 34 = .ok (.iadd, 1) := by decide +kernel
theorem dX7_fixDownTo_35 : decode cX7_fixDownTo 35 = .ok (.putfield 32, 3) := by decide +kernel
theorem dX7_fixDownTo_38 : decode cX7_fixDownTo 38 = .ok (.aload_n 0, 1) := by decide +kernel
theorem dX7_fixDownTo_39 : decode cX7_fixDownTo 39 = .ok (.aload_n 0, 1) := by decide +kernel
theorem dX7_fixDownTo_40 : decode cX7_fixDownTo 40 = .ok (.aload_n 0, 1) := by decide +kernel
theorem dX7_fixDownTo_41 : decode cX7_fixDownTo 41 = .ok (.getfield 32, 3) := by decide +kernel
theorem dX7_fixDownTo_44 : decode cX7_fixDownTo 44 = .ok (.invokevirtual 88, 3) := by decide +kernel
theorem dX7_fixDownTo_47 : decode cX7_fixDownTo 47 = .ok (.putfield 35, 3) := by decide +kernel
theorem dX7_fixDownTo_50 : decode cX7_fixDownTo 50 = .ok (.iinc 2 1, 3) := by decide +kernel
theorem dX7_fixDownTo_53 : decode cX7_fixDownTo 53 = .ok (.goto (-51), 3) := by decide +kernel
theorem dX7_fixDownTo_56 : decode cX7_fixDownTo 56 = .ok (.return_, 1) := by decide +kernel
theorem dX7_openStrokes_0 : decode cX7_openStrokes 0 = .ok (.aload_n 0, 1) := by decide +kernel
theorem dX7_openStrokes_1 : decode cX7_openStrokes 1 = .ok (.getfield 25, 3) := by decide +kernel
theorem dX7_openStrokes_4 : decode cX7_openStrokes 4 = .ok (.aload_n 0, 1) := by decide +kernel
theorem dX7_openStrokes_5 : decode cX7_openStrokes 5 = .ok (.getfield 35, 3) := by decide +kernel
theorem dX7_openStrokes_8 : decode cX7_openStrokes 8 = .ok (.isub, 1) := by decide +kernel
theorem dX7_openStrokes_9 : decode cX7_openStrokes 9 = .ok (.ireturn, 1) := by decide +kernel
theorem dX7_openItems_0 : decode cX7_openItems 0 = .ok (.aload_n 0, 1) := by decide +kernel
theorem dX7_openItems_1 : decode cX7_openItems 1 = .ok (.getfield 29, 3) := by decide +kernel
theorem dX7_openItems_4 : decode cX7_openItems 4 = .ok (.aload_n 0, 1) := by decide +kernel
theorem dX7_openItems_5 : decode cX7_openItems 5 = .ok (.getfield 32, 3) := by decide +kernel
theorem dX7_openItems_8 : decode cX7_openItems 8 = .ok (.isub, 1) := by decide +kernel
theorem dX7_openItems_9 : decode cX7_openItems 9 = .ok (.ireturn, 1) := by decide +kernel
set_option maxRecDepth 20000 in
theorem ggX7_openItemsOf_X6_at : GoodIn wsX7_openItemsOf wsX6_at := goodIn_r _ [7] (by decide +kernel) (by decide +kernel)
set_option maxRecDepth 20000 in
theorem gX7_openItemsOf_X6_at : GoodIn wsX7_openItemsOf (va_wsS RX7 58 yX6_at wsX6_at) := goodIn_app (goodIn_of _ (by decide +kernel)) ggX7_openItemsOf_X6_at
theorem dX7_openItemsOf_0 : decode cX7_openItemsOf 0 = .ok (.iconst 0, 1) := by decide +kernel
theorem dX7_openItemsOf_1 : decode cX7_openItemsOf 1 = .ok (.istore_n 2, 1) := by decide +kernel
theorem dX7_openItemsOf_2 : decode cX7_openItemsOf 2 = .ok (.aload_n 0, 1) := by decide +kernel
theorem dX7_openItemsOf_3 : decode cX7_openItemsOf 3 = .ok (.getfield 32, 3) := by decide +kernel
theorem dX7_openItemsOf_6 : decode cX7_openItemsOf 6 = .ok (.istore_n 3, 1) := by decide +kernel
theorem dX7_openItemsOf_7 : decode cX7_openItemsOf 7 = .ok (.iload_n 3, 1) := by decide +kernel
theorem dX7_openItemsOf_8 : decode cX7_openItemsOf 8 = .ok (.aload_n 0, 1) := by decide +kernel
theorem dX7_openItemsOf_9 : decode cX7_openItemsOf 9 = .ok (.getfield 29, 3) := by decide +kernel
theorem dX7_openItemsOf_12 : decode cX7_openItemsOf 12 = .ok (.if_icmp .ge 24, 3) := by decide +kernel
theorem dX7_openItemsOf_15 : decode cX7_openItemsOf 15 = .ok (.aload_n 0, 1) := by decide +kernel
theorem dX7_openItemsOf_16 : decode cX7_openItemsOf 16 = .ok (.getfield 18, 3) := by decide +kernel
theorem dX7_openItemsOf_19 : decode cX7_openItemsOf 19 = .ok (.iload_n 3, 1) := by decide +kernel
theorem dX7_openItemsOf_20 : decode cX7_openItemsOf 20 = .ok (.invokestatic 58, 3) := by decide +kernel
theorem dX7_openItemsOf_23 : decode cX7_openItemsOf 23 = .ok (.iload_n 1, 1) := by decide +kernel
theorem dX7_openItemsOf_24 : decode cX7_openItemsOf 24 = .ok (.if_icmp .ne 6, 3) := by decide +kernel
theorem dX7_openItemsOf_27 : decode cX7_openItemsOf 27 = .ok (.iinc 2 1, 3) := by decide +kernel
theorem dX7_openItemsOf_30 : decode cX7_openItemsOf 30 = .ok (.iinc 3 1, 3) := by decide +kernel
theorem dX7_openItemsOf_33 : decode cX7_openItemsOf 33 = .ok (.goto (-26), 3) := by decide +kernel
theorem dX7_openItemsOf_36 : decode cX7_openItemsOf 36 = .ok (.iload_n 2, 1) := by decide +kernel
theorem dX7_openItemsOf_37 : decode cX7_openItemsOf 37 = .ok (.ireturn, 1) := by decide +kernel
set_option maxRecDepth 20000 in
theorem ggX7_firstOf_X6_at : GoodIn wsX7_firstOf wsX6_at := goodIn_r _ [7] (by decide +kernel) (by decide +kernel)
set_option maxRecDepth 20000 in
theorem gX7_firstOf_X6_at : GoodIn wsX7_firstOf (va_wsS RX7 58 yX6_at wsX6_at) := goodIn_app (goodIn_of _ (by decide +kernel)) ggX7_firstOf_X6_at
theorem dX7_firstOf_0 : decode cX7_firstOf 0 = .ok (.iload_n 1, 1) := by decide +kernel
theorem dX7_firstOf_1 : decode cX7_firstOf 1 = .ok (.aload_n 0, 1) := by decide +kernel
theorem dX7_firstOf_2 : decode cX7_firstOf 2 = .ok (.getfield 29, 3) := by decide +kernel
theorem dX7_firstOf_5 : decode cX7_firstOf 5 = .ok (.if_icmp .ge 14, 3) := by decide +kernel
theorem dX7_firstOf_8 : decode cX7_firstOf 8 = .ok (.aload_n 0, 1) := by decide +kernel
theorem dX7_firstOf_9 : decode cX7_firstOf 9 = .ok (.getfield 15, 3) := by decide +kernel
theorem dX7_firstOf_12 : decode cX7_firstOf 12 = .ok (.iload_n 1, 1) := by decide +kernel
theorem dX7_firstOf_13 : decode cX7_firstOf 13 = .ok (.invokestatic 58, 3) := by decide +kernel
theorem dX7_firstOf_16 : decode cX7_firstOf 16 = .ok (.goto 7, 3) := by decide +kernel
theorem dX7_firstOf_19 : decode cX7_firstOf 19 = .ok (.aload_n 0, 1) := by decide +kernel
theorem dX7_firstOf_20 : decode cX7_firstOf 20 = .ok (.getfield 25, 3) := by decide +kernel
theorem dX7_firstOf_23 : decode cX7_firstOf 23 = .ok (.ireturn, 1) := by decide +kernel
set_option maxRecDepth 20000 in
theorem ggX7_strokesOf_X7_firstOf : GoodIn wsX7_strokesOf wsX7_firstOf := goodIn_r _ [5, 6, 7, 8, 9, 10, 11, 12, 13, 14, 15, 16, 17, 18, 19, 20, 21] (by decide +kernel) (by decide +kernel)
set_option maxRecDepth 20000 in
theorem gX7_strokesOf_X7_firstOf : GoodIn wsX7_strokesOf (wsV RX7 88 RX7 yX7_firstOf wsX7_firstOf) := goodIn_app (goodIn_of _ (by decide +kernel)) ggX7_strokesOf_X7_firstOf
theorem dX7_strokesOf_0 : decode cX7_strokesOf 0 = .ok (.aload_n 0, 1) := by decide +kernel
theorem dX7_strokesOf_1 : decode cX7_strokesOf 1 = .ok (.iload_n 1, 1) := by decide +kernel
theorem dX7_strokesOf_2 : decode cX7_strokesOf 2 = .ok (.iconst 1, 1) := by decide +kernel
theorem dX7_strokesOf_3 : decode cX7_strokesOf 3 = .ok (.iadd, 1) := by decide +kernel
theorem dX7_strokesOf_4 : decode cX7_strokesOf 4 = .ok (.invokevirtual 88, 3) := by decide +kernel
theorem dX7_strokesOf_7 : decode cX7_strokesOf 7 = .ok (.aload_n 0, 1) := by decide +kernel
theorem dX7_strokesOf_8 : decode cX7_strokesOf 8 = .ok (.iload_n 1, 1) := by decide +kernel
theorem dX7_strokesOf_9 : decode cX7_strokesOf 9 = .ok (.invokevirtual 88, 3) := by decide +kernel
theorem dX7_strokesOf_12 : decode cX7_strokesOf 12 = .ok (.isub, 1) := by decide +kernel
theorem dX7_strokesOf_13 : decode cX7_strokesOf 13 = .ok (.ireturn, 1) := by decide +kernel
set_option maxRecDepth 20000 in
theorem ggX7_itemWith_X7_firstOf : GoodIn wsX7_itemWith wsX7_firstOf := goodIn_r _ [6, 1, 7, 8, 9, 10, 11, 12, 13, 14, 15, 16, 17, 18, 19, 20, 21] (by decide +kernel) (by decide +kernel)
set_option maxRecDepth 20000 in
theorem gX7_itemWith_X7_firstOf : GoodIn wsX7_itemWith (wsV RX7 88 RX7 yX7_firstOf wsX7_firstOf) := goodIn_app (goodIn_of _ (by decide +kernel)) ggX7_itemWith_X7_firstOf
theorem dX7_itemWith_0 : decode cX7_itemWith 0 = .ok (.aload_n 0, 1) := by decide +kernel
theorem dX7_itemWith_1 : decode cX7_itemWith 1 = .ok (.getfield 29, 3) := by decide +kernel
theorem dX7_itemWith_4 : decode cX7_itemWith 4 = .ok (.iconst 1, 1) := by decide +kernel
theorem dX7_itemWith_5 : decode cX7_itemWith 5 = .ok (.isub, 1) := by decide +kernel
theorem dX7_itemWith_6 : decode cX7_itemWith 6 = .ok (.istore_n 2, 1) := by decide +kernel
theorem dX7_itemWith_7 : decode cX7_itemWith 7 = .ok (.iload_n 2, 1) := by decide +kernel
theorem dX7_itemWith_8 : decode cX7_itemWith 8 = .ok (.ifCond .le 20, 3) := by decide +kernel
theorem dX7_itemWith_11 : decode cX7_itemWith 11 = .ok (.aload_n 0, 1) := by decide +kernel
theorem dX7_itemWith_12 : decode cX7_itemWith 12 = .ok (.iload_n 2, 1) := by decide +kernel
theorem dX7_itemWith_13 : decode cX7_itemWith 13 = .ok (.invokevirtual 88, 3) := by decide +kernel
theorem dX7_itemWith_16 : decode cX7_itemWith 16 = .ok (.iload_n 1, 1) := by decide +kernel
theorem dX7_itemWith_17 : decode cX7_itemWith 17 = .ok (.if_icmp .gt 5, 3) := by decide +kernel
theorem dX7_itemWith_20 : decode cX7_itemWith 20 = .ok (.iload_n 2, 1) := by decide +kernel
theorem dX7_itemWith_21 : decode cX7_itemWith 21 = .ok (.ireturn, 1) := by decide +kernel
theorem dX7_itemWith_22 : decode cX7_itemWith 22 = .ok (.iinc 2 (-1), 3) := by decide +kernel
theorem dX7_itemWith_25 : decode cX7_itemWith 25 = .ok (.goto (-18), 3) := by decide +kernel
theorem dX7_itemWith_28 : decode cX7_itemWith 28 = .ok (.iconst 0, 1) := by decide +kernel
theorem dX7_itemWith_29 : decode cX7_itemWith 29 = .ok (.ireturn, 1) := by decide +kernel
set_option maxRecDepth 20000 in
theorem ggX7_lettersOf_X6_at_ : GoodIn wsX7_lettersOf wsX6_at_ := goodIn_r _ [6] (by decide +kernel) (by decide +kernel)
set_option maxRecDepth 20000 in
theorem gX7_lettersOf_X6_at_ : GoodIn wsX7_lettersOf (va_wsS RX7 92 yX6_at_ wsX6_at_) := goodIn_app (goodIn_of _ (by decide +kernel)) ggX7_lettersOf_X6_at_
set_option maxRecDepth 20000 in
theorem ggX7_lettersOf_X7_firstOf : GoodIn wsX7_lettersOf wsX7_firstOf := goodIn_r _ [11, 12, 13, 14, 15, 16, 5, 17, 32, 33, 34, 35, 36, 37, 38, 39, 40] (by decide +kernel) (by decide +kernel)
set_option maxRecDepth 20000 in
theorem gX7_lettersOf_X7_firstOf : GoodIn wsX7_lettersOf (wsV RX7 88 RX7 yX7_firstOf wsX7_firstOf) := goodIn_app (goodIn_of _ (by decide +kernel)) ggX7_lettersOf_X7_firstOf
set_option maxRecDepth 20000 in
theorem ggX7_lettersOf_X6_at : GoodIn wsX7_lettersOf wsX6_at := goodIn_r _ [17] (by decide +kernel) (by decide +kernel)
set_option maxRecDepth 20000 in
theorem gX7_lettersOf_X6_at : GoodIn wsX7_lettersOf (va_wsS RX7 58 yX6_at wsX6_at) := goodIn_app (goodIn_of _ (by decide +kernel)) ggX7_lettersOf_X6_at
set_option maxRecDepth 20000 in
theorem ggX7_lettersOf_J6_bitCount_0f7a4 : GoodIn wsX7_lettersOf wsJ6_bitCount_0f7a4 := goodIn_r _ [21, 22, 23, 24] (by decide +kernel) (by decide +kernel)
set_option maxRecDepth 20000 in
theorem gX7_lettersOf_J6_bitCount_0f7a4 : GoodIn wsX7_lettersOf (va_wsS RX7 95 yJ6_bitCount_0f7a4 wsJ6_bitCount_0f7a4) := goodIn_app (goodIn_of _ (by decide +kernel)) ggX7_lettersOf_J6_bitCount_0f7a4
set_option maxRecDepth 20000 in
theorem ggX7_lettersOf_X9_length : GoodIn wsX7_lettersOf wsX9_length := goodIn_r _ [28, 29, 30, 27, 31] (by decide +kernel) (by decide +kernel)
set_option maxRecDepth 20000 in
theorem gX7_lettersOf_X9_length : GoodIn wsX7_lettersOf (va_wsS RX7 100 yX9_length wsX9_length) := goodIn_app (goodIn_of _ (by decide +kernel)) ggX7_lettersOf_X9_length
theorem dX7_lettersOf_0 : decode cX7_lettersOf 0 = .ok (.aload_n 0, 1) := by decide +kernel
theorem dX7_lettersOf_1 : decode cX7_lettersOf 1 = .ok (.getfield 21, 3) := by decide +kernel
theorem dX7_lettersOf_4 : decode cX7_lettersOf 4 = .ok (.iload_n 1, 1) := by decide +kernel
theorem dX7_lettersOf_5 : decode cX7_lettersOf 5 = .ok (.invokestatic 92, 3) := by decide +kernel
theorem dX7_lettersOf_8 : decode cX7_lettersOf 8 = .ok (.lstore_n 2, 1) := by decide +kernel
theorem dX7_lettersOf_9 : decode cX7_lettersOf 9 = .ok (.lload_n 2, 1) := by decide +kernel
theorem dX7_lettersOf_10 : decode cX7_lettersOf 10 = .ok (.lconst 0, 1) := by decide +kernel
theorem dX7_lettersOf_11 : decode cX7_lettersOf 11 = .ok (.lcmp, 1) := by decide +kernel
theorem dX7_lettersOf_12 : decode cX7_lettersOf 12 = .ok (.ifCond .ne 21, 3) := by decide +kernel
theorem dX7_lettersOf_15 : decode cX7_lettersOf 15 = .ok (.aload_n 0, 1) := by decide +kernel
theorem dX7_lettersOf_16 : decode cX7_lettersOf 16 = .ok (.getfield 11, 3) := by decide +kernel
theorem dX7_lettersOf_19 : decode cX7_lettersOf 19 = .ok (.aload_n 0, 1) := by decide +kernel
theorem dX7_lettersOf_20 : decode cX7_lettersOf 20 = .ok (.iload_n 1, 1) := by decide +kernel
theorem dX7_lettersOf_21 : decode cX7_lettersOf 21 = .ok (.invokevirtual 88, 3) := by decide +kernel
theorem dX7_lettersOf_24 : decode cX7_lettersOf 24 = .ok (.invokestatic 58, 3) := by decide +kernel
theorem dX7_lettersOf_27 : decode cX7_lettersOf 27 = .ok (.invokestatic 95, 3) := by decide +kernel
theorem dX7_lettersOf_30 : decode cX7_lettersOf 30 = .ok (.goto 7, 3) := by decide +kernel
theorem dX7_lettersOf_33 : decode cX7_lettersOf 33 = .ok (.lload_n 2, 1) := by decide +kernel
theorem dX7_lettersOf_34 : decode cX7_lettersOf 34 = .ok (.invokestatic 100, 3) := by decide +kernel
theorem dX7_lettersOf_37 : decode cX7_lettersOf 37 = .ok (.ireturn, 1) := by decide +kernel
set_option maxRecDepth 20000 in
theorem ggX7_letterOf_X6_at_ : GoodIn wsX7_letterOf wsX6_at_ := goodIn_r _ [6] (by decide +kernel) (by decide +kernel)
set_option maxRecDepth 20000 in
theorem gX7_letterOf_X6_at_ : GoodIn wsX7_letterOf (va_wsS RX7 92 yX6_at_ wsX6_at_) := goodIn_app (goodIn_of _ (by decide +kernel)) ggX7_letterOf_X6_at_
set_option maxRecDepth 20000 in
theorem ggX7_letterOf_X7_firstOf : GoodIn wsX7_letterOf wsX7_firstOf := goodIn_r _ [11, 12, 13, 14, 15, 16, 5, 17, 29, 30, 31, 32, 33, 34, 35, 36, 37] (by decide +kernel) (by decide +kernel)
set_option maxRecDepth 20000 in
theorem gX7_letterOf_X7_firstOf : GoodIn wsX7_letterOf (wsV RX7 88 RX7 yX7_firstOf wsX7_firstOf) := goodIn_app (goodIn_of _ (by decide +kernel)) ggX7_letterOf_X7_firstOf
set_option maxRecDepth 20000 in
theorem ggX7_letterOf_X6_at : GoodIn wsX7_letterOf wsX6_at := goodIn_r _ [17] (by decide +kernel) (by decide +kernel)
set_option maxRecDepth 20000 in
theorem gX7_letterOf_X6_at : GoodIn wsX7_letterOf (va_wsS RX7 58 yX6_at wsX6_at) := goodIn_app (goodIn_of _ (by decide +kernel)) ggX7_letterOf_X6_at
set_option maxRecDepth 20000 in
theorem ggX7_letterOf_X3_codeAt : GoodIn wsX7_letterOf wsX3_codeAt := goodIn_r _ [21, 22, 23, 20, 24] (by decide +kernel) (by decide +kernel)
set_option maxRecDepth 20000 in
theorem gX7_letterOf_X3_codeAt : GoodIn wsX7_letterOf (va_wsS RX7 103 yX3_codeAt wsX3_codeAt) := goodIn_app (goodIn_of _ (by decide +kernel)) ggX7_letterOf_X3_codeAt
set_option maxRecDepth 20000 in
theorem ggX7_letterOf_X9_letterOf : GoodIn wsX7_letterOf wsX9_letterOf := goodIn_r _ [28] (by decide +kernel) (by decide +kernel)
set_option maxRecDepth 20000 in
theorem gX7_letterOf_X9_letterOf : GoodIn wsX7_letterOf (va_wsS RX7 109 yX9_letterOf wsX9_letterOf) := goodIn_app (goodIn_of _ (by decide +kernel)) ggX7_letterOf_X9_letterOf
theorem dX7_letterOf_0 : decode cX7_letterOf 0 = .ok (.aload_n 0, 1) := by decide +kernel
theorem dX7_letterOf_1 : decode cX7_letterOf 1 = .ok (.getfield 21, 3) := by decide +kernel
theorem dX7_letterOf_4 : decode cX7_letterOf 4 = .ok (.iload_n 1, 1) := by decide +kernel
theorem dX7_letterOf_5 : decode cX7_letterOf 5 = .ok (.invokestatic 92, 3) := by decide +kernel
theorem dX7_letterOf_8 : decode cX7_letterOf 8 = .ok (.lstore_n 3, 1) := by decide +kernel
theorem dX7_letterOf_9 : decode cX7_letterOf 9 = .ok (.lload_n 3, 1) := by decide +kernel
theorem dX7_letterOf_10 : decode cX7_letterOf 10 = .ok (.lconst 0, 1) := by decide +kernel
theorem dX7_letterOf_11 : decode cX7_letterOf 11 = .ok (.lcmp, 1) := by decide +kernel
theorem dX7_letterOf_12 : decode cX7_letterOf 12 = .ok (.ifCond .ne 22, 3) := by decide +kernel
theorem dX7_letterOf_15 : decode cX7_letterOf 15 = .ok (.aload_n 0, 1) := by decide +kernel
theorem dX7_letterOf_16 : decode cX7_letterOf 16 = .ok (.getfield 11, 3) := by decide +kernel
theorem dX7_letterOf_19 : decode cX7_letterOf 19 = .ok (.aload_n 0, 1) := by decide +kernel
theorem dX7_letterOf_20 : decode cX7_letterOf 20 = .ok (.iload_n 1, 1) := by decide +kernel
theorem dX7_letterOf_21 : decode cX7_letterOf 21 = .ok (.invokevirtual 88, 3) := by decide +kernel
theorem dX7_letterOf_24 : decode cX7_letterOf 24 = .ok (.invokestatic 58, 3) := by decide +kernel
theorem dX7_letterOf_27 : decode cX7_letterOf 27 = .ok (.iload_n 2, 1) := by decide +kernel
theorem dX7_letterOf_28 : decode cX7_letterOf 28 = .ok (.invokestatic 103, 3) := by decide +kernel
theorem dX7_letterOf_31 : decode cX7_letterOf 31 = .ok (.goto 8, 3) := by decide +kernel
theorem dX7_letterOf_34 : decode cX7_letterOf 34 = .ok (.lload_n 3, 1) := by decide +kernel
theorem dX7_letterOf_35 : decode cX7_letterOf 35 = .ok (.iload_n 2, 1) := by decide +kernel
theorem dX7_letterOf_36 : decode cX7_letterOf 36 = .ok (.invokestatic 109, 3) := by decide +kernel
theorem dX7_letterOf_39 : decode cX7_letterOf 39 = .ok (.ireturn, 1) := by decide +kernel
set_option maxRecDepth 20000 in
theorem ggX7_allLetters_X7_lettersOf : GoodIn wsX7_allLetters wsX7_lettersOf := goodIn_r _ [6, 7, 8, 9, 10, 11, 12, 13, 14, 15, 5, 16, 1, 17, 18, 19, 20, 21, 22, 23, 24, 25, 26, 27, 28, 29, 30, 31, 32, 33, 34, 35, 36, 37, 38, 39, 40, 41, 42, 43, 44] (by decide +kernel) (by decide +kernel)
set_option maxRecDepth 20000 in
theorem gX7_allLetters_X7_lettersOf : GoodIn wsX7_allLetters (wsV RX7 113 RX7 yX7_lettersOf wsX7_lettersOf) := goodIn_app (goodIn_of _ (by decide +kernel)) ggX7_allLetters_X7_lettersOf
theorem dX7_allLetters_0 : decode cX7_allLetters 0 = .ok (.iconst 0, 1) := by decide +kernel
theorem dX7_allLetters_1 : decode cX7_allLetters 1 = .ok (.istore_n 1, 1) := by decide +kernel
theorem dX7_allLetters_2 : decode cX7_allLetters 2 = .ok (.iconst 0, 1) := by decide +kernel
theorem dX7_allLetters_3 : decode cX7_allLetters 3 = .ok (.istore_n 2, 1) := by decide +kernel
theorem dX7_allLetters_4 : decode cX7_allLetters 4 = .ok (.iload_n 2, 1) := by decide +kernel
theorem dX7_allLetters_5 : decode cX7_allLetters 5 = .ok (.aload_n 0, 1) := by decide +kernel
theorem dX7_allLetters_6 : decode cX7_allLetters 6 = .ok (.getfield 29, 3) := by decide +kernel
theorem dX7_allLetters_9 : decode cX7_allLetters 9 = .ok (.if_icmp .ge 17, 3) := by decide +kernel
theorem dX7_allLetters_12 : decode cX7_allLetters 12 = .ok (.iload_n 1, 1) := by decide +kernel
theorem dX7_allLetters_13 : decode cX7_allLetters 13 = .ok (.aload_n 0, 1) := by decide +kernel
theorem dX7_allLetters_14 : decode cX7_allLetters 14 = .ok (.iload_n 2, 1) := by decide +kernel
theorem dX7_allLetters_15 : decode cX7_allLetters 15 = .ok (.invokevirtual 113, 3) := by decide +kernel
theorem dX7_allLetters_18 : decode cX7_allLetters 18 = .ok (.iadd, 1) := by decide +kernel
theorem dX7_allLetters_19 : decode cX7_allLetters 19 = .ok (.istore_n 1, 1) := by decide +kernel
theorem dX7_allLetters_20 : decode cX7_allLetters 20 = .ok (.iinc 2 1, 3) := by decide +kernel
theorem dX7_allLetters_23 : decode cX7_allLetters 23 = .ok (.goto (-19), 3) := by decide +kernel
theorem dX7_allLetters_26 : decode cX7_allLetters 26 = .ok (.iload_n 1, 1) := by decide +kernel
theorem dX7_allLetters_27 : decode cX7_allLetters 27 = .ok (.ireturn, 1) := by decide +kernel
set_option maxRecDepth 20000 in
theorem ggX7_wordOf_X7_lettersOf : GoodIn wsX7_wordOf wsX7_lettersOf := goodIn_r _ [6, 7, 8, 9, 10, 11, 12, 13, 14, 15, 5, 16, 1, 17, 18, 19, 20, 21, 22, 23, 24, 25, 26, 27, 28, 29, 30, 31, 32, 33, 34, 35, 54, 55, 56, 57, 58, 59, 60, 61, 62] (by decide +kernel) (by decide +kernel)
set_option maxRecDepth 20000 in
theorem gX7_wordOf_X7_lettersOf : GoodIn wsX7_wordOf (wsV RX7 113 RX7 yX7_lettersOf wsX7_lettersOf) := goodIn_app (goodIn_of _ (by decide +kernel)) ggX7_wordOf_X7_lettersOf
set_option maxRecDepth 20000 in
theorem ggX7_wordOf_X7_letterOf : GoodIn wsX7_wordOf wsX7_letterOf := goodIn_r _ [39, 7, 8, 9, 10, 11, 12, 13, 14, 15, 5, 16, 1, 17, 18, 19, 20, 21, 40, 41, 42, 43, 44, 45, 46, 47, 34, 31, 35, 54, 55, 56, 57, 58, 59, 60, 61, 62] (by decide +kernel) (by decide +kernel)
set_option maxRecDepth 20000 in
theorem gX7_wordOf_X7_letterOf : GoodIn wsX7_wordOf (wsV RX7 116 RX7 yX7_letterOf wsX7_letterOf) := goodIn_app (goodIn_of _ (by decide +kernel)) ggX7_wordOf_X7_letterOf
set_option maxRecDepth 20000 in
theorem ggX7_wordOf_X7_small : GoodIn wsX7_wordOf wsX7_small := goodIn_r _ [50] (by decide +kernel) (by decide +kernel)
set_option maxRecDepth 20000 in
theorem gX7_wordOf_X7_small : GoodIn wsX7_wordOf (va_wsS RX7 118 yX7_small wsX7_small) := goodIn_app (goodIn_of _ (by decide +kernel)) ggX7_wordOf_X7_small
set_option maxRecDepth 20000 in
theorem ggX7_wordOf_X9_with : GoodIn wsX7_wordOf wsX9_with := goodIn_r _ [53] (by decide +kernel) (by decide +kernel)
set_option maxRecDepth 20000 in
theorem gX7_wordOf_X9_with : GoodIn wsX7_wordOf (va_wsS RX7 121 yX9_with wsX9_with) := goodIn_app (goodIn_of _ (by decide +kernel)) ggX7_wordOf_X9_with
theorem dX7_wordOf_0 : decode cX7_wordOf 0 = .ok (.lconst 0, 1) := by decide +kernel
theorem dX7_wordOf_1 : decode cX7_wordOf 1 = .ok (.lstore_n 3, 1) := by decide +kernel
theorem dX7_wordOf_2 : decode cX7_wordOf 2 = .ok (.iconst 0, 1) := by decide +kernel
theorem dX7_wordOf_3 : decode cX7_wordOf 3 = .ok (.istore 5, 2) := by decide +kernel
theorem dX7_wordOf_5 : decode cX7_wordOf 5 = .ok (.iload_n 1, 1) := by decide +kernel
theorem dX7_wordOf_6 : decode cX7_wordOf 6 = .ok (.istore 6, 2) := by decide +kernel
theorem dX7_wordOf_8 : decode cX7_wordOf 8 = .ok (.iload 6, 2) := by decide +kernel
theorem dX7_wordOf_10 : decode cX7_wordOf 10 = .ok (.iload_n 2, 1) := by decide +kernel
theorem dX7_wordOf_11 : decode cX7_wordOf 11 = .ok (.if_icmp .gt 70, 3) := by decide +kernel
theorem dX7_wordOf_14 : decode cX7_wordOf 14 = .ok (.iload 6, 2) := by decide +kernel
theorem dX7_wordOf_16 : decode cX7_wordOf 16 = .ok (.aload_n 0, 1) := by decide +kernel
theorem dX7_wordOf_17 : decode cX7_wordOf 17 = .ok (.getfield 29, 3) := by decide +kernel
theorem dX7_wordOf_20 : decode cX7_wordOf 20 = .ok (.if_icmp .ge 61, 3) := by decide +kernel
theorem dX7_wordOf_23 : decode cX7_wordOf 23 = .ok (.aload_n 0, 1) := by decide +kernel
theorem dX7_wordOf_24 : decode cX7_wordOf 24 = .ok (.iload 6, 2) := by decide +kernel
theorem dX7_wordOf_26 : decode cX7_wordOf 26 = .ok (.invokevirtual 113, 3) := by decide +kernel
theorem dX7_wordOf_29 : decode cX7_wordOf 29 = .ok (.istore 7, 2) := by decide +kernel
theorem dX7_wordOf_31 : decode cX7_wordOf 31 = .ok (.iconst 0, 1) := by decide +kernel
theorem dX7_wordOf_32 : decode cX7_wordOf 32 = .ok (.istore 8, 2) := by decide +kernel
theorem dX7_wordOf_34 : decode cX7_wordOf 34 = .ok (.iload 8, 2) := by decide +kernel
theorem dX7_wordOf_36 : decode cX7_wordOf 36 = .ok (.iload 7, 2) := by decide +kernel
theorem dX7_wordOf_38 : decode cX7_wordOf 38 = .ok (.if_icmp .ge 37, 3) := by decide +kernel
theorem dX7_wordOf_41 : decode cX7_wordOf 41 = .ok (.iload 5, 2) := by decide +kernel
theorem dX7_wordOf_43 : decode cX7_wordOf 43 = .ok (.bipush 8, 2) := by decide +kernel
theorem dX7_wordOf_45 : decode cX7_wordOf 45 = .ok (.if_icmp .ge 30, 3) := by decide +kernel
theorem dX7_wordOf_48 : decode cX7_wordOf 48 = .ok (.lload_n 3, 1) := by decide +kernel
theorem dX7_wordOf_49 : decode cX7_wordOf 49 = .ok (.iload 5, 2) := by decide +kernel
theorem dX7_wordOf_51 : decode cX7_wordOf 51 = .ok (.aload_n 0, 1) := by decide +kernel
theorem dX7_wordOf_52 : decode cX7_wordOf 52 = .ok (.iload 6, 2) := by decide +kernel
theorem dX7_wordOf_54 : decode cX7_wordOf 54 = .ok (.iload 8, 2) := by decide +kernel
theorem dX7_wordOf_56 : decode cX7_wordOf 56 = .ok (.invokevirtual 116, 3) := by decide +kernel
theorem dX7_wordOf_59 : decode cX7_wordOf 59 = .ok (.invokestatic 118, 3) := by decide +kernel
theorem dX7_wordOf_62 : decode cX7_wordOf 62 = .ok (.invokestatic 121, 3) := by decide +kernel
theorem dX7_wordOf_65 : decode cX7_wordOf 65 = .ok (.lstore_n 3, 1) := by decide +kernel
theorem dX7_wordOf_66 : decode cX7_wordOf 66 = .ok (.iinc 5 1, 3) := by decide +kernel
theorem dX7_wordOf_69 : decode cX7_wordOf 69 = .ok (.iinc 8 1, 3) := by decide +kernel
theorem dX7_wordOf_72 : decode cX7_wordOf 72 = .ok (.goto (-38), 3) := by decide +kernel
theorem dX7_wordOf_75 : decode cX7_wordOf 75 = .ok (.iinc 6 1, 3) := by decide +kernel
theorem dX7_wordOf_78 : decode cX7_wordOf 78 = .ok (.goto (-70), 3) := by decide +kernel
theorem dX7_wordOf_81 : decode cX7_wordOf 81 = .ok (.lload_n 3, 1) := by decide +kernel
theorem dX7_wordOf_82 : decode cX7_wordOf 82 = .ok (.lreturn, 1) := by decide +kernel
theorem dX7_small_0 : decode cX7_small 0 = .ok (.iload_n 0, 1) := by decide +kernel
theorem dX7_small_1 : decode cX7_small 1 = .ok (.bipush 65, 2) := by decide +kernel
theorem dX7_small_3 : decode cX7_small 3 = .ok (.if_icmp .lt 16, 3) := by decide +kernel
theorem dX7_small_6 : decode cX7_small 6 = .ok (.iload_n 0, 1) := by decide +kernel
theorem dX7_small_7 : decode cX7_small 7 = .ok (.bipush 90, 2) := by decide +kernel
theorem dX7_small_9 : decode cX7_small 9 = .ok (.if_icmp .gt 10, 3) := by decide +kernel
theorem dX7_small_12 : decode cX7_small 12 = .ok (.iload_n 0, 1) := by decide +kernel
theorem dX7_small_13 : decode cX7_small 13 = .ok (.bipush 32, 2) := by decide +kernel
theorem dX7_small_15 : decode cX7_small 15 = .ok (.iadd, 1) := by decide +kernel
theorem dX7_small_16 : decode cX7_small 16 = .ok (.goto 4, 3) := by decide +kernel
theorem dX7_small_19 : decode cX7_small 19 = .ok (.iload_n 0, 1) := by decide +kernel
theorem dX7_small_20 : decode cX7_small 20 = .ok (.ireturn, 1) := by decide +kernel
set_option maxRecDepth 20000 in
theorem ggX8_init_X1_init : GoodIn wsX8_init wsX1_init := goodIn_r _ [13, 14, 2, 3, 15, 16, 17, 18, 32, 33, 34] (by decide +kernel) (by decide +kernel)
set_option maxRecDepth 20000 in
theorem gX8_init_X1_init_n9 : GoodIn wsX8_init (wsX1_init) := ggX8_init_X1_init
set_option maxRecDepth 20000 in
theorem ggX8_init_X7_init : GoodIn wsX8_init wsX7_init := goodIn_r _ [20, 21, 2, 3, 22, 23, 24, 25, 15, 26, 27, 28, 29, 30, 31, 37, 38, 39, 40, 41, 42, 43, 44, 45] (by decide +kernel) (by decide +kernel)
set_option maxRecDepth 20000 in
theorem gX8_init_X7_init_n18 : GoodIn wsX8_init (wsX7_init) := ggX8_init_X7_init
theorem dX8_init_0 : decode cX8_init 0 = .ok (.aload_n 0, 1) := by decide +kernel
theorem dX8_init_1 : decode cX8_init 1 = .ok (.invokespecial 1, 3) := by decide +kernel
theorem dX8_init_4 : decode cX8_init 4 = .ok (.aload_n 0, 1) := by decide +kernel
theorem dX8_init_5 : decode cX8_init 5 = .ok (.new 7, 3) := by decide +kernel
theorem dX8_init_8 : decode cX8_init 8 = .ok (.dup, 1) := by decide +kernel
theorem dX8_init_9 : decode cX8_init 9 = .ok (.invokespecial 9, 3) := by decide +kernel
theorem dX8_init_12 : decode cX8_init 12 = .ok (.putfield 10, 3) := by decide +kernel
theorem dX8_init_15 : decode cX8_init 15 = .ok (.aload_n 0, 1) := by decide +kernel
theorem dX8_init_16 : decode cX8_init 16 = .ok (.new 16, 3) := by decide +kernel
theorem dX8_init_19 : decode cX8_init 19 = .ok (.dup, 1) := by decide +kernel
theorem dX8_init_20 : decode cX8_init 20 = .ok (.invokespecial 18, 3) := by decide +kernel
theorem dX8_init_23 : decode cX8_init 23 = .ok (.putfield 19, 3) := by decide +kernel
theorem dX8_init_26 : decode cX8_init 26 = .ok (.return_, 1) := by decide +kernel
set_option maxRecDepth 20000 in
theorem ggX8_copyFrom_X1_copyFrom : GoodIn wsX8_copyFrom wsX1_copyFrom := goodIn_r _ [7, 8, 9, 10, 11, 12, 13, 14, 15, 16, 17, 18, 19, 20, 21, 22, 43, 44, 45] (by decide +kernel) (by decide +kernel)
set_option maxRecDepth 20000 in
theorem gX8_copyFrom_X1_copyFrom : GoodIn wsX8_copyFrom (wsV RX8 23 RX1 yX1_copyFrom wsX1_copyFrom) := goodIn_app (goodIn_of _ (by decide +kernel)) ggX8_copyFrom_X1_copyFrom
set_option maxRecDepth 20000 in
theorem ggX8_copyFrom_X7_copyFrom : GoodIn wsX8_copyFrom wsX7_copyFrom := goodIn_r _ [27, 28, 29, 30, 31, 32, 33, 34, 35, 36, 37, 38, 13, 39, 15, 16, 17, 18, 19, 20, 21, 22, 40, 12, 14, 46, 47, 48, 49, 50, 51, 52, 53, 54] (by decide +kernel) (by decide +kernel)
set_option maxRecDepth 20000 in
theorem gX8_copyFrom_X7_copyFrom : GoodIn wsX8_copyFrom (wsV RX8 27 RX7 yX7_copyFrom wsX7_copyFrom) := goodIn_app (goodIn_of _ (by decide +kernel)) ggX8_copyFrom_X7_copyFrom
theorem dX8_copyFrom_0 : decode cX8_copyFrom 0 = .ok (.aload_n 0, 1) := by decide +kernel
theorem dX8_copyFrom_1 : decode cX8_copyFrom 1 = .ok (.getfield 10, 3) := by decide +kernel
theorem dX8_copyFrom_4 : decode cX8_copyFrom 4 = .ok (.aload_n 1, 1) := by decide +kernel
theorem dX8_copyFrom_5 : decode cX8_copyFrom 5 = .ok (.getfield 10, 3) := by decide +kernel
theorem dX8_copyFrom_8 : decode cX8_copyFrom 8 = .ok (.invokevirtual 23, 3) := by decide +kernel
theorem dX8_copyFrom_11 : decode cX8_copyFrom 11 = .ok (.aload_n 0, 1) := by decide +kernel
theorem dX8_copyFrom_12 : decode cX8_copyFrom 12 = .ok (.getfield 19, 3) := by decide +kernel
theorem dX8_copyFrom_15 : decode cX8_copyFrom 15 = .ok (.aload_n 1, 1) := by decide +kernel
theorem dX8_copyFrom_16 : decode cX8_copyFrom 16 = .ok (.getfield 19, 3) := by decide +kernel
theorem dX8_copyFrom_19 : decode cX8_copyFrom 19 = .ok (.invokevirtual 27, 3) := by decide +kernel
theorem dX8_copyFrom_22 : decode cX8_copyFrom 22 = .ok (.return_, 1) := by decide +kernel
set_option maxRecDepth 20000 in
theorem ggX8_press_X7_add : GoodIn wsX8_press wsX7_add := goodIn_r _ [6, 7, 8, 9, 10, 11, 12, 94, 95, 96, 97, 98, 99, 100, 101, 102] (by decide +kernel) (by decide +kernel)
set_option maxRecDepth 20000 in
theorem gX8_press_X7_add : GoodIn wsX8_press (wsV RX8 30 RX7 yX7_add wsX7_add) := goodIn_app (goodIn_of _ (by decide +kernel)) ggX8_press_X7_add
set_option maxRecDepth 20000 in
theorem ggX8_press_X8_translate : GoodIn wsX8_press wsX8_translate := goodIn_r _ [17, 1, 18, 19, 20, 21, 5, 22, 23, 24, 25, 8, 7, 26, 27, 28, 29, 30, 31, 32, 33, 34, 35, 36, 37, 38, 39, 40, 41, 42, 43, 44, 11, 45, 46, 47, 48, 49, 50, 51, 52, 53, 54, 55, 56, 57, 58, 59, 60, 9, 10, 12, 61, 62, 63, 64, 65, 66, 67, 68, 69, 70, 71, 72, 73, 74, 75, 76, 77, 78, 79, 80, 81, 82, 83, 84, 85, 86, 87, 88, 89, 90, 91, 92, 93, 94, 95, 96, 97, 98, 99, 100, 101, 102, 103, 104, 105] (by decide +kernel) (by decide +kernel)
set_option maxRecDepth 20000 in
theorem gX8_press_X8_translate : GoodIn wsX8_press (wsV RX8 34 RX8 yX8_translate wsX8_translate) := goodIn_app (goodIn_of _ (by decide +kernel)) ggX8_press_X8_translate
theorem dX8_press_0 : decode cX8_press 0 = .ok (.aload_n 0, 1) := by decide +kernel
theorem dX8_press_1 : decode cX8_press 1 = .ok (.getfield 19, 3) := by decide +kernel
theorem dX8_press_4 : decode cX8_press 4 = .ok (.iload_n 1, 1) := by decide +kernel
theorem dX8_press_5 : decode cX8_press 5 = .ok (.invokevirtual 30, 3) := by decide +kernel
theorem dX8_press_8 : decode cX8_press 8 = .ok (.aload_n 0, 1) := by decide +kernel
theorem dX8_press_9 : decode cX8_press 9 = .ok (.invokevirtual 34, 3) := by decide +kernel
theorem dX8_press_12 : decode cX8_press 12 = .ok (.return_, 1) := by decide +kernel
set_option maxRecDepth 20000 in
theorem ggX8_translate_X7_translate : GoodIn wsX8_translate wsX7_translate := goodIn_r _ [7, 8, 9, 10, 11, 12, 13, 14, 15, 16, 17, 18, 19, 20, 21, 22, 23, 24, 25, 26, 27, 28, 29, 30, 31, 32, 33, 34, 35, 36, 37, 38, 39, 40, 41, 42, 43, 44, 45, 46, 47, 48, 49, 50, 51, 52, 53, 54, 55, 56, 57, 58, 59, 60, 61, 62, 63, 64, 65, 66, 67, 68, 69, 70, 71, 72, 6, 73, 74, 75, 76, 77, 78, 79, 80, 81, 82, 85, 86, 87, 88, 89, 90, 91, 92, 93, 94, 95, 96] (by decide +kernel) (by decide +kernel)
set_option maxRecDepth 20000 in
theorem gX8_translate_X7_translate : GoodIn wsX8_translate (wsV RX8 37 RX7 yX7_translate wsX7_translate) := goodIn_app (goodIn_of _ (by decide +kernel)) ggX8_translate_X7_translate
theorem dX8_translate_0 : decode cX8_translate 0 = .ok (.aload_n 0, 1) := by decide +kernel
theorem dX8_translate_1 : decode cX8_translate 1 = .ok (.getfield 19, 3) := by decide +kernel
theorem dX8_translate_4 : decode cX8_translate 4 = .ok (.aload_n 0, 1) := by decide +kernel
theorem dX8_translate_5 : decode cX8_translate 5 = .ok (.getfield 10, 3) := by decide +kernel
theorem dX8_translate_8 : decode cX8_translate 8 = .ok (.invokevirtual 37, 3) := by decide +kernel
theorem dX8_translate_11 : decode cX8_translate 11 = .ok (.return_, 1) := by decide +kernel
theorem dX9_with_0 : decode cX9_with 0 = .ok (.lload_n 0, 1) := by decide +kernel
theorem dX9_with_1 : decode cX9_with 1 = .ok (.iload_n 3, 1) := by decide +kernel
theorem dX9_with_2 : decode cX9_with 2 = .ok (.i2l, 1) := by decide +kernel
theorem dX9_with_3 : decode cX9_with 3 = .ok (.iload_n 2, 1) := by decide +kernel
theorem dX9_with_4 : decode cX9_with 4 = .ok (.bipush 8, 2) := by decide +kernel
theorem dX9_with_6 : decode cX9_with 6 = .ok (.imul, 1) := by decide +kernel
theorem dX9_with_7 : decode cX9_with 7 = .ok (.lshl, 1) := by decide +kernel
theorem dX9_with_8 : decode cX9_with 8 = .ok (.lor, 1) := by decide +kernel
theorem dX9_with_9 : decode cX9_with 9 = .ok (.lreturn, 1) := by decide +kernel
theorem dX9_letterOf_0 : decode cX9_letterOf 0 = .ok (.lload_n 0, 1) := by decide +kernel
theorem dX9_letterOf_1 : decode cX9_letterOf 1 = .ok (.iload_n 2, 1) := by decide +kernel
theorem dX9_letterOf_2 : decode cX9_letterOf 2 = .ok (.bipush 8, 2) := by decide +kernel
theorem dX9_letterOf_4 : decode cX9_letterOf 4 = .ok (.imul, 1) := by decide +kernel
theorem dX9_letterOf_5 : decode cX9_letterOf 5 = .ok (.lushr, 1) := by decide +kernel
theorem dX9_letterOf_6 : decode cX9_letterOf 6 = .ok (.l2i, 1) := by decide +kernel
theorem dX9_letterOf_7 : decode cX9_letterOf 7 = .ok (.sipush 255, 3) := by decide +kernel
theorem dX9_letterOf_10 : decode cX9_letterOf 10 = .ok (.iand, 1) := by decide +kernel
theorem dX9_letterOf_11 : decode cX9_letterOf 11 = .ok (.ireturn, 1) := by decide +kernel
set_option maxRecDepth 20000 in
theorem ggX9_length_X9_letterOf : GoodIn wsX9_length wsX9_letterOf := goodIn_r _ [4] (by decide +kernel) (by decide +kernel)
set_option maxRecDepth 20000 in
theorem gX9_length_X9_letterOf : GoodIn wsX9_length (va_wsS RX9 9 yX9_letterOf wsX9_letterOf) := goodIn_app (goodIn_of _ (by decide +kernel)) ggX9_length_X9_letterOf
theorem dX9_length_0 : decode cX9_length 0 = .ok (.iconst 0, 1) := by decide +kernel
theorem dX9_length_1 : decode cX9_length 1 = .ok (.istore_n 2, 1) := by decide +kernel
theorem dX9_length_2 : decode cX9_length 2 = .ok (.iconst 0, 1) := by decide +kernel
theorem dX9_length_3 : decode cX9_length 3 = .ok (.istore_n 3, 1) := by decide +kernel
theorem dX9_length_4 : decode cX9_length 4 = .ok (.iload_n 3, 1) := by decide +kernel
theorem dX9_length_5 : decode cX9_length 5 = .ok (.bipush 8, 2) := by decide +kernel
theorem dX9_length_7 : decode cX9_length 7 = .ok (.if_icmp .ge 20, 3) := by decide +kernel
theorem dX9_length_10 : decode cX9_length 10 = .ok (.lload_n 0, 1) := by decide +kernel
theorem dX9_length_11 : decode cX9_length 11 = .ok (.iload_n 3, 1) := by decide +kernel
theorem dX9_length_12 : decode cX9_length 12 = .ok (.invokestatic 9, 3) := by decide +kernel
theorem dX9_length_15 : decode cX9_length 15 = .ok (.ifCond .eq 6, 3) := by decide +kernel
theorem dX9_length_18 : decode cX9_length 18 = .ok (.iinc 2 1, 3) := by decide +kernel
theorem dX9_length_21 : decode cX9_length 21 = .ok (.iinc 3 1, 3) := by decide +kernel
theorem dX9_length_24 : decode cX9_length 24 = .ok (.goto (-20), 3) := by decide +kernel
theorem dX9_length_27 : decode cX9_length 27 = .ok (.iload_n 2, 1) := by decide +kernel
theorem dX9_length_28 : decode cX9_length 28 = .ok (.ireturn, 1) := by decide +kernel
theorem dX10_init_0 : decode cX10_init 0 = .ok (.aload_n 0, 1) := by decide +kernel
theorem dX10_init_1 : decode cX10_init 1 = .ok (.invokespecial 3, 3) := by decide +kernel
theorem dX10_init_4 : decode cX10_init 4 = .ok (.aload_n 0, 1) := by decide +kernel
theorem dX10_init_5 : decode cX10_init 5 = .ok (.bipush 61, 2) := by decide +kernel
theorem dX10_init_7 : decode cX10_init 7 = .ok (.newarray .int, 2) := by decide +kernel
theorem dX10_init_9 : decode cX10_init 9 = .ok (.putfield 9, 3) := by decide +kernel
theorem dX10_init_12 : decode cX10_init 12 = .ok (.aload_n 0, 1) := by decide +kernel
theorem dX10_init_13 : decode cX10_init 13 = .ok (.sipush 240, 3) := by decide +kernel
theorem dX10_init_16 : decode cX10_init 16 = .ok (.newarray .int, 2) := by decide +kernel
theorem dX10_init_18 : decode cX10_init 18 = .ok (.putfield 15, 3) := by decide +kernel
theorem dX10_init_21 : decode cX10_init 21 = .ok (.aload_n 0, 1) := by decide +kernel
theorem dX10_init_22 : decode cX10_init 22 = .ok (.iconst 0, 1) := by decide +kernel
theorem dX10_init_23 : decode cX10_init 23 = .ok (.putfield 18, 3) := by decide +kernel
theorem dX10_init_26 : decode cX10_init 26 = .ok (.return_, 1) := by decide +kernel
set_option maxRecDepth 20000 in
theorem ggX11_init_X8_init : GoodIn wsX11_init wsX8_init := goodIn_r _ [26, 27, 2, 3, 28, 29, 30, 31, 32, 33, 34, 35, 36, 37, 38, 39, 40, 41, 42, 43, 44, 45, 46, 47, 48, 49, 50, 51, 52, 53, 54, 55, 104, 105, 106, 83, 84, 107, 108, 109, 110, 111, 112, 113, 114, 115] (by decide +kernel) (by decide +kernel)
set_option maxRecDepth 20000 in
theorem gX11_init_X8_init_n9 : GoodIn wsX11_init (wsX8_init) := ggX11_init_X8_init
set_option maxRecDepth 20000 in
theorem ggX11_init_X2_init : GoodIn wsX11_init wsX2_init := goodIn_r _ [58, 59, 2, 3, 60, 61, 62, 5, 6, 25, 26, 27, 28, 29, 30, 31, 32, 33, 34, 35, 36, 37, 38, 39, 40, 41, 42, 43, 44, 45, 46, 47, 48, 49, 50, 51, 52, 53, 54, 55, 91, 92, 83, 84, 104, 105, 106, 107, 108, 109, 110, 111, 112, 113, 114, 115] (by decide +kernel) (by decide +kernel)
set_option maxRecDepth 20000 in
theorem gX11_init_X2_init : GoodIn wsX11_init (wsX2_init) := ggX11_init_X2_init
set_option maxRecDepth 20000 in
theorem ggX11_init_X0_init : GoodIn wsX11_init wsX0_init := goodIn_r _ [64, 65, 2, 3, 46, 66, 67, 93, 94] (by decide +kernel) (by decide +kernel)
set_option maxRecDepth 20000 in
theorem gX11_init_X0_init_n28 : GoodIn wsX11_init (wsX0_init) := ggX11_init_X0_init
set_option maxRecDepth 20000 in
theorem ggX11_init_X4_init : GoodIn wsX11_init wsX4_init := goodIn_r _ [69, 70, 2, 3, 71, 72, 73, 74, 75, 76, 95, 96, 97, 98, 99, 100] (by decide +kernel) (by decide +kernel)
set_option maxRecDepth 20000 in
theorem gX11_init_X4_init_n35 : GoodIn wsX11_init (wsX4_init) := ggX11_init_X4_init
set_option maxRecDepth 20000 in
theorem ggX11_init_X10_init : GoodIn wsX11_init wsX10_init := goodIn_r _ [78, 79, 2, 3, 46, 80, 81, 82, 101, 102, 103] (by decide +kernel) (by decide +kernel)
set_option maxRecDepth 20000 in
theorem gX11_init_X10_init_n42 : GoodIn wsX11_init (wsX10_init) := ggX11_init_X10_init
theorem dX11_init_0 : decode cX11_init 0 = .ok (.aload_n 0, 1) := by decide +kernel
theorem dX11_init_1 : decode cX11_init 1 = .ok (.invokespecial 1, 3) := by decide +kernel
theorem dX11_init_4 : decode cX11_init 4 = .ok (.aload_n 0, 1) := by decide +kernel
theorem dX11_init_5 : decode cX11_init 5 = .ok (.new 7, 3) := by decide +kernel
theorem dX11_init_8 : decode cX11_init 8 = .ok (.dup, 1) := by decide +kernel
theorem dX11_init_9 : decode cX11_init 9 = .ok (.invokespecial 9, 3) := by decide +kernel
theorem dX11_init_12 : decode cX11_init 12 = .ok (.putfield 10, 3) := by decide +kernel
theorem dX11_init_15 : decode cX11_init 15 = .ok (.aload_n 0, 1) := by decide +kernel
theorem dX11_init_16 : decode cX11_init 16 = .ok (.new 7, 3) := by decide +kernel
theorem dX11_init_19 : decode cX11_init 19 = .ok (.dup, 1) := by decide +kernel
theorem dX11_init_20 : decode cX11_init 20 = .ok (.invokespecial 9, 3) := by decide +kernel
theorem dX11_init_23 : decode cX11_init 23 = .ok (.putfield 16, 3) := by decide +kernel
theorem dX11_init_26 : decode cX11_init 26 = .ok (.aload_n 0, 1) := by decide +kernel
theorem dX11_init_27 : decode cX11_init 27 = .ok (.new 19, 3) := by decide +kernel
theorem dX11_init_30 : decode cX11_init 30 = .ok (.dup, 1) := by decide +kernel
theorem dX11_init_31 : decode cX11_init 31 = .ok (.invokespecial 21, 3) := by decide +kernel
theorem dX11_init_34 : decode cX11_init 34 = .ok (.putfield 22, 3) := by decide +kernel
theorem dX11_init_37 : decode cX11_init 37 = .ok (.aload_n 0, 1) := by decide +kernel
theorem dX11_init_38 : decode cX11_init 38 = .ok (.new 26, 3) := by decide +kernel
theorem dX11_init_41 : decode cX11_init 41 = .ok (.dup, 1) := by decide +kernel
theorem dX11_init_42 : decode cX11_init 42 = .ok (.invokespecial 28, 3) := by decide +kernel
theorem dX11_init_45 : decode cX11_init 45 = .ok (.putfield 29, 3) := by decide +kernel
theorem dX11_init_48 : decode cX11_init 48 = .ok (.aload_n 0, 1) := by decide +kernel
theorem dX11_init_49 : decode cX11_init 49 = .ok (.new 33, 3) := by decide +kernel
theorem dX11_init_52 : decode cX11_init 52 = .ok (.dup, 1) := by decide +kernel
theorem dX11_init_53 : decode cX11_init 53 = .ok (.invokespecial 35, 3) := by decide +kernel
theorem dX11_init_56 : decode cX11_init 56 = .ok (.putfield 36, 3) := by decide +kernel
theorem dX11_init_59 : decode cX11_init 59 = .ok (.aload_n 0, 1) := by decide +kernel
theorem dX11_init_60 : decode cX11_init 60 = .ok (.new 40, 3) := by decide +kernel
theorem dX11_init_63 : decode cX11_init 63 = .ok (.dup, 1) := by decide +kernel
theorem dX11_init_64 : decode cX11_init 64 = .ok (.invokespecial 42, 3) := by decide +kernel
theorem dX11_init_67 : decode cX11_init 67 = .ok (.putfield 43, 3) := by decide +kernel
theorem dX11_init_70 : decode cX11_init 70 = .ok (.return_, 1) := by decide +kernel
set_option maxRecDepth 20000 in
theorem ggX11_stroke_X11_isStroke : GoodIn wsX11_stroke wsX11_isStroke := goodIn_r _ [13] (by decide +kernel) (by decide +kernel)
set_option maxRecDepth 20000 in
theorem gX11_stroke_X11_isStroke : GoodIn wsX11_stroke (va_wsS RX11 47 yX11_isStroke wsX11_isStroke) := goodIn_app (goodIn_of _ (by decide +kernel)) ggX11_stroke_X11_isStroke
set_option maxRecDepth 20000 in
theorem ggX11_stroke_X2_push : GoodIn wsX11_stroke wsX2_push := goodIn_r _ [18, 19, 20, 21, 22, 23, 17, 24, 25, 26, 27, 28, 29, 30, 31, 32, 33, 34, 35, 36, 37, 38, 39, 40, 41, 42, 43, 44, 45, 46, 47, 48, 49, 50, 51, 52, 53, 54, 55, 56, 57, 58, 59, 60, 61, 62, 63, 64, 65, 66, 67, 68, 69, 70, 71, 72, 73, 165, 166, 154, 155, 167, 168, 169, 156, 157, 158, 159, 160, 161, 162, 163, 164] (by decide +kernel) (by decide +kernel)
set_option maxRecDepth 20000 in
theorem gX11_stroke_X2_push : GoodIn wsX11_stroke (wsV RX11 73 RX2 yX2_push wsX2_push) := goodIn_app (goodIn_of _ (by decide +kernel)) ggX11_stroke_X2_push
set_option maxRecDepth 20000 in
theorem ggX11_stroke_X8_press : GoodIn wsX11_stroke wsX8_press := goodIn_r _ [77, 35, 78, 79, 80, 59, 81, 61, 65, 82, 83, 46, 84, 85, 86, 87, 32, 88, 34, 89, 90, 91, 92, 67, 66, 68, 62, 63, 64, 69, 93, 94, 95, 39, 96, 97, 49, 50, 51, 98, 99, 100, 101, 102, 103, 104, 105, 106, 107, 108, 109, 110, 111, 112, 113, 114, 43, 41, 115, 116, 117, 118, 119, 120, 121, 42, 122, 123, 124, 125, 126, 127, 128, 129, 130, 131, 132, 133, 134, 135, 136, 137, 138, 139, 140, 141, 142, 143, 144, 145, 146, 147, 154, 155, 156, 157, 158, 159, 160, 161, 162, 163, 164, 167, 168, 169] (by decide +kernel) (by decide +kernel)
set_option maxRecDepth 20000 in
theorem gX11_stroke_X8_press : GoodIn wsX11_stroke (wsV RX11 77 RX8 yX8_press wsX8_press) := goodIn_app (goodIn_of _ (by decide +kernel)) ggX11_stroke_X8_press
theorem dX11_stroke_0 : decode cX11_stroke 0 = .ok (.iload_n 1, 1) := by decide +kernel
theorem dX11_stroke_1 : decode cX11_stroke 1 = .ok (.invokestatic 47, 3) := by decide +kernel
theorem dX11_stroke_4 : decode cX11_stroke 4 = .ok (.ifCond .ne 13, 3) := by decide +kernel
theorem dX11_stroke_7 : decode cX11_stroke 7 = .ok (.new 51, 3) := by decide +kernel
theorem dX11_stroke_10 : decode cX11_stroke 10 = .ok (.dup, 1) := by decide +kernel
theorem dX11_stroke_11 : decode cX11_stroke 11 = .ok (.ldc 53, 2) := by decide +kernel
theorem dX11_stroke_13 : decode cX11_stroke 13 = .ok (.invokespecial 55, 3) := by decide +kernel
theorem dX11_stroke_16 : decode cX11_stroke 16 = .ok (.athrow, 1) := by decide +kernel
theorem dX11_stroke_17 : decode cX11_stroke 17 = .ok (.aload_n 0, 1) := by decide +kernel
theorem dX11_stroke_18 : decode cX11_stroke 18 = .ok (.getfield 10, 3) := by decide +kernel
theorem dX11_stroke_21 : decode cX11_stroke 21 = .ok (.getfield 58, 3) := by decide +kernel
theorem dX11_stroke_24 : decode cX11_stroke 24 = .ok (.getfield 62, 3) := by decide +kernel
theorem dX11_stroke_27 : decode cX11_stroke 27 = .ok (.bipush 60, 2) := by decide +kernel
theorem dX11_stroke_29 : decode cX11_stroke 29 = .ok (.if_icmp .lt 13, 3) := by decide +kernel
theorem dX11_stroke_32 : decode cX11_stroke 32 = .ok (.new 68, 3) := by decide +kernel
theorem dX11_stroke_35 : decode cX11_stroke 35 = .ok (.dup, 1) := by decide +kernel
theorem dX11_stroke_36 : decode cX11_stroke 36 = .ok (.ldc 70, 2) := by decide +kernel
theorem dX11_stroke_38 : decode cX11_stroke 38 = .ok (.invokespecial 72, 3) := by decide +kernel
theorem dX11_stroke_41 : decode cX11_stroke 41 = .ok (.athrow, 1) := by decide +kernel
theorem dX11_stroke_42 : decode cX11_stroke 42 = .ok (.aload_n 0, 1) := by decide +kernel
theorem dX11_stroke_43 : decode cX11_stroke 43 = .ok (.getfield 22, 3) := by decide +kernel
theorem dX11_stroke_46 : decode cX11_stroke 46 = .ok (.aload_n 0, 1) := by decide +kernel
theorem dX11_stroke_47 : decode cX11_stroke 47 = .ok (.getfield 10, 3) := by decide +kernel
theorem dX11_stroke_50 : decode cX11_stroke 50 = .ok (.invokevirtual 73, 3) := by decide +kernel
theorem dX11_stroke_53 : decode cX11_stroke 53 = .ok (.aload_n 0, 1) := by decide +kernel
theorem dX11_stroke_54 : decode cX11_stroke 54 = .ok (.getfield 10, 3) := by decide +kernel
theorem dX11_stroke_57 : decode cX11_stroke 57 = .ok (.iload_n 1, 1) := by decide +kernel
theorem dX11_stroke_58 : decode cX11_stroke 58 = .ok (.invokevirtual 77, 3) := by decide +kernel
theorem dX11_stroke_61 : decode cX11_stroke 61 = .ok (.aload_n 0, 1) := by decide +kernel
theorem dX11_stroke_62 : decode cX11_stroke 62 = .ok (.getfield 10, 3) := by decide +kernel
theorem dX11_stroke_65 : decode cX11_stroke 65 = .ok (.getfield 58, 3) := by decide +kernel
theorem dX11_stroke_68 : decode cX11_stroke 68 = .ok (.getfield 81, 3) := by decide +kernel
theorem dX11_stroke_71 : decode cX11_stroke 71 = .ok (.ireturn, 1) := by decide +kernel
set_option maxRecDepth 20000 in
theorem ggX11_takeBack_X2_push : GoodIn wsX11_takeBack wsX2_push := goodIn_r _ [12, 13, 14, 15, 16, 17, 11, 18, 19, 20, 21, 22, 23, 24, 25, 26, 27, 28, 29, 30, 31, 32, 33, 34, 35, 36, 37, 38, 39, 40, 41, 42, 43, 44, 45, 46, 47, 48, 49, 50, 51, 52, 53, 54, 55, 56, 57, 58, 59, 60, 61, 62, 63, 64, 65, 66, 67, 156, 157, 145, 146, 158, 159, 160, 147, 148, 149, 150, 151, 152, 153, 154, 155] (by decide +kernel) (by decide +kernel)
set_option maxRecDepth 20000 in
theorem gX11_takeBack_X2_push : GoodIn wsX11_takeBack (wsV RX11 73 RX2 yX2_push wsX2_push) := goodIn_app (goodIn_of _ (by decide +kernel)) ggX11_takeBack_X2_push
set_option maxRecDepth 20000 in
theorem ggX11_takeBack_X6_at : GoodIn wsX11_takeBack wsX6_at := goodIn_r _ [70] (by decide +kernel) (by decide +kernel)
set_option maxRecDepth 20000 in
theorem gX11_takeBack_X6_at : GoodIn wsX11_takeBack (va_wsS RX11 90 yX6_at wsX6_at) := goodIn_app (goodIn_of _ (by decide +kernel)) ggX11_takeBack_X6_at
set_option maxRecDepth 20000 in
theorem ggX11_takeBack_X7_dropLast : GoodIn wsX11_takeBack wsX7_dropLast := goodIn_r _ [74, 61, 56, 62, 59, 75, 76, 77, 53, 78, 79, 69, 40, 70, 147, 148, 149, 150, 151, 152, 153, 154, 155] (by decide +kernel) (by decide +kernel)
set_option maxRecDepth 20000 in
theorem gX11_takeBack_X7_dropLast : GoodIn wsX11_takeBack (wsV RX11 96 RX7 yX7_dropLast wsX7_dropLast) := goodIn_app (goodIn_of _ (by decide +kernel)) ggX11_takeBack_X7_dropLast
set_option maxRecDepth 20000 in
theorem ggX11_takeBack_X8_translate : GoodIn wsX11_takeBack wsX8_translate := goodIn_r _ [83, 29, 28, 84, 85, 86, 53, 87, 61, 60, 62, 59, 55, 56, 57, 58, 63, 88, 89, 90, 33, 91, 92, 43, 44, 45, 93, 94, 95, 96, 97, 69, 40, 70, 98, 99, 100, 101, 102, 103, 104, 105, 106, 107, 37, 35, 108, 109, 110, 111, 112, 113, 114, 115, 116, 117, 36, 118, 119, 120, 121, 122, 123, 124, 125, 126, 127, 128, 129, 130, 131, 132, 133, 134, 75, 76, 77, 78, 135, 136, 137, 138, 79, 145, 146, 147, 148, 149, 150, 151, 152, 153, 154, 155, 158, 159, 160] (by decide +kernel) (by decide +kernel)
set_option maxRecDepth 20000 in
theorem gX11_takeBack_X8_translate : GoodIn wsX11_takeBack (wsV RX11 99 RX8 yX8_translate wsX8_translate) := goodIn_app (goodIn_of _ (by decide +kernel)) ggX11_takeBack_X8_translate
theorem dX11_takeBack_0 : decode cX11_takeBack 0 = .ok (.aload_n 0, 1) := by decide +kernel
theorem dX11_takeBack_1 : decode cX11_takeBack 1 = .ok (.getfield 10, 3) := by decide +kernel
theorem dX11_takeBack_4 : decode cX11_takeBack 4 = .ok (.getfield 58, 3) := by decide +kernel
theorem dX11_takeBack_7 : decode cX11_takeBack 7 = .ok (.getfield 62, 3) := by decide +kernel
theorem dX11_takeBack_10 : decode cX11_takeBack 10 = .ok (.ifCond .ne 13, 3) := by decide +kernel
theorem dX11_takeBack_13 : decode cX11_takeBack 13 = .ok (.new 68, 3) := by decide +kernel
theorem dX11_takeBack_16 : decode cX11_takeBack 16 = .ok (.dup, 1) := by decide +kernel
theorem dX11_takeBack_17 : decode cX11_takeBack 17 = .ok (.ldc 84, 2) := by decide +kernel
theorem dX11_takeBack_19 : decode cX11_takeBack 19 = .ok (.invokespecial 72, 3) := by decide +kernel
theorem dX11_takeBack_22 : decode cX11_takeBack 22 = .ok (.athrow, 1) := by decide +kernel
theorem dX11_takeBack_23 : decode cX11_takeBack 23 = .ok (.aload_n 0, 1) := by decide +kernel
theorem dX11_takeBack_24 : decode cX11_takeBack 24 = .ok (.getfield 22, 3) := by decide +kernel
theorem dX11_takeBack_27 : decode cX11_takeBack 27 = .ok (.aload_n 0, 1) := by decide +kernel
theorem dX11_takeBack_28 : decode cX11_takeBack 28 = .ok (.getfield 10, 3) := by decide +kernel
theorem dX11_takeBack_31 : decode cX11_takeBack 31 = .ok (.invokevirtual 73, 3) := by decide +kernel
theorem dX11_takeBack_34 : decode cX11_takeBack 34 = .ok (.aload_n 0, 1) := by decide +kernel
theorem dX11_takeBack_35 : decode cX11_takeBack 35 = .ok (.getfield 10, 3) := by decide +kernel
theorem dX11_takeBack_38 : decode cX11_takeBack 38 = .ok (.getfield 58, 3) := by decide +kernel
theorem dX11_takeBack_41 : decode cX11_takeBack 41 = .ok (.getfield 86, 3) := by decide +kernel
theorem dX11_takeBack_44 : decode cX11_takeBack 44 = .ok (.aload_n 0, 1) := by decide +kernel
theorem dX11_takeBack_45 : decode cX11_takeBack 45 = .ok (.getfield 10, 3) := by decide +kernel
theorem dX11_takeBack_48 : decode cX11_takeBack 48 = .ok (.getfield 58, 3) := by decide +kernel
theorem dX11_takeBack_51 : decode cX11_takeBack 51 = .ok (.getfield 62, 3) := by decide +kernel
theorem dX11_takeBack_54 : decode cX11_takeBack 54 = .ok (.iconst 1, 1) := by decide +kernel
theorem dX11_takeBack_55 : decode cX11_takeBack 55 = .ok (.isub, 1) := by decide +kernel
theorem dX11_takeBack_56 : decode cX11_takeBack 56 = .ok (.invokestatic 90, 3) := by decide +kernel
theorem dX11_takeBack_59 : decode cX11_takeBack 59 = .ok (.istore_n 1, 1) := by decide +kernel
theorem dX11_takeBack_60 : decode cX11_takeBack 60 = .ok (.aload_n 0, 1) := by decide +kernel
theorem dX11_takeBack_61 : decode cX11_takeBack 61 = .ok (.getfield 10, 3) := by decide +kernel
theorem dX11_takeBack_64 : decode cX11_takeBack 64 = .ok (.getfield 58, 3) := by decide +kernel
theorem dX11_takeBack_67 : decode cX11_takeBack 67 = .ok (.invokevirtual 96, 3) := by decide +kernel
theorem dX11_takeBack_70 : decode cX11_takeBack 70 = .ok (.aload_n 0, 1) := by decide +kernel
theorem dX11_takeBack_71 : decode cX11_takeBack 71 = .ok (.getfield 10, 3) := by decide +kernel
theorem dX11_takeBack_74 : decode cX11_takeBack 74 = .ok (.invokevirtual 99, 3) := by decide +kernel
theorem dX11_takeBack_77 : decode cX11_takeBack 77 = .ok (.iload_n 1, 1) := by decide +kernel
theorem dX11_takeBack_78 : decode cX11_takeBack 78 = .ok (.ireturn, 1) := by decide +kernel
set_option maxRecDepth 20000 in
theorem ggX11_fixAll_X2_push : GoodIn wsX11_fixAll wsX2_push := goodIn_r _ [8, 9, 10, 11, 12, 13, 7, 14, 15, 16, 17, 18, 19, 20, 21, 22, 23, 24, 25, 26, 27, 28, 29, 30, 31, 32, 33, 34, 35, 36, 37, 38, 39, 40, 41, 42, 43, 44, 45, 46, 47, 48, 49, 50, 51, 52, 53, 54, 55, 56, 57, 58, 59, 60, 61, 62, 63, 94, 95, 92, 93, 96, 97, 98, 99, 100, 101, 102, 103, 104, 105, 106, 107] (by decide +kernel) (by decide +kernel)
set_option maxRecDepth 20000 in
theorem gX11_fixAll_X2_push : GoodIn wsX11_fixAll (wsV RX11 73 RX2 yX2_push wsX2_push) := goodIn_app (goodIn_of _ (by decide +kernel)) ggX11_fixAll_X2_push
set_option maxRecDepth 20000 in
theorem ggX11_fixAll_X7_openItems : GoodIn wsX11_fixAll wsX7_openItems := goodIn_r _ [67, 56, 57, 99, 100, 101, 102, 103, 104, 105, 106, 107] (by decide +kernel) (by decide +kernel)
set_option maxRecDepth 20000 in
theorem gX11_fixAll_X7_openItems : GoodIn wsX11_fixAll (wsV RX11 102 RX7 yX7_openItems wsX7_openItems) := goodIn_app (goodIn_of _ (by decide +kernel)) ggX11_fixAll_X7_openItems
set_option maxRecDepth 20000 in
theorem ggX11_fixAll_X7_fixDownTo : GoodIn wsX11_fixAll wsX7_fixDownTo := goodIn_r _ [71, 53, 57, 58, 72, 73, 74, 49, 75, 55, 76, 77, 36, 78, 79, 80, 81, 82, 56, 52, 83, 84, 85, 99, 100, 101, 102, 103, 104, 105, 106, 107] (by decide +kernel) (by decide +kernel)
set_option maxRecDepth 20000 in
theorem gX11_fixAll_X7_fixDownTo : GoodIn wsX11_fixAll (wsV RX11 106 RX7 yX7_fixDownTo wsX7_fixDownTo) := goodIn_app (goodIn_of _ (by decide +kernel)) ggX11_fixAll_X7_fixDownTo
theorem dX11_fixAll_0 : decode cX11_fixAll 0 = .ok (.aload_n 0, 1) := by decide +kernel
theorem dX11_fixAll_1 : decode cX11_fixAll 1 = .ok (.getfield 22, 3) := by decide +kernel
theorem dX11_fixAll_4 : decode cX11_fixAll 4 = .ok (.aload_n 0, 1) := by decide +kernel
theorem dX11_fixAll_5 : decode cX11_fixAll 5 = .ok (.getfield 10, 3) := by decide +kernel
theorem dX11_fixAll_8 : decode cX11_fixAll 8 = .ok (.invokevirtual 73, 3) := by decide +kernel
theorem dX11_fixAll_11 : decode cX11_fixAll 11 = .ok (.aload_n 0, 1) := by decide +kernel
theorem dX11_fixAll_12 : decode cX11_fixAll 12 = .ok (.getfield 10, 3) := by decide +kernel
theorem dX11_fixAll_15 : decode cX11_fixAll 15 = .ok (.getfield 58, 3) := by decide +kernel
theorem dX11_fixAll_18 : decode cX11_fixAll 18 = .ok (.invokevirtual 102, 3) := by decide +kernel
theorem dX11_fixAll_21 : decode cX11_fixAll 21 = .ok (.istore_n 1, 1) := by decide +kernel
theorem dX11_fixAll_22 : decode cX11_fixAll 22 = .ok (.aload_n 0, 1) := by decide +kernel
theorem dX11_fixAll_23 : decode cX11_fixAll 23 = .ok (.getfield 10, 3) := by decide +kernel
theorem dX11_fixAll_26 : decode cX11_fixAll 26 = .ok (.getfield 58, 3) := by decide +kernel
theorem dX11_fixAll_29 : decode cX11_fixAll 29 = .ok (.iconst 0, 1) := by decide +kernel
theorem dX11_fixAll_30 : decode cX11_fixAll 30 = .ok (.invokevirtual 106, 3) := by decide +kernel
theorem dX11_fixAll_33 : decode cX11_fixAll 33 = .ok (.iload_n 1, 1) := by decide +kernel
theorem dX11_fixAll_34 : decode cX11_fixAll 34 = .ok (.ireturn, 1) := by decide +kernel
set_option maxRecDepth 20000 in
theorem ggX11_setWindow_X2_push : GoodIn wsX11_setWindow wsX2_push := goodIn_r _ [11, 12, 13, 14, 15, 16, 10, 17, 18, 19, 20, 21, 22, 23, 24, 25, 26, 27, 28, 29, 30, 31, 32, 33, 34, 35, 36, 37, 38, 39, 40, 41, 42, 43, 44, 45, 46, 47, 48, 49, 50, 51, 52, 53, 54, 55, 56, 57, 58, 59, 60, 61, 62, 63, 64, 65, 66, 102, 103, 91, 92, 104, 105, 106, 93, 94, 95, 96, 97, 98, 99, 100, 101] (by decide +kernel) (by decide +kernel)
set_option maxRecDepth 20000 in
theorem gX11_setWindow_X2_push : GoodIn wsX11_setWindow (wsV RX11 73 RX2 yX2_push wsX2_push) := goodIn_app (goodIn_of _ (by decide +kernel)) ggX11_setWindow_X2_push
set_option maxRecDepth 20000 in
theorem ggX11_setWindow_X7_fixDownTo : GoodIn wsX11_setWindow wsX7_fixDownTo := goodIn_r _ [70, 56, 60, 61, 71, 72, 73, 52, 74, 58, 75, 76, 39, 77, 78, 79, 80, 81, 59, 55, 82, 83, 84, 93, 94, 95, 96, 97, 98, 99, 100, 101] (by decide +kernel) (by decide +kernel)
set_option maxRecDepth 20000 in
theorem gX11_setWindow_X7_fixDownTo : GoodIn wsX11_setWindow (wsV RX11 106 RX7 yX7_fixDownTo wsX7_fixDownTo) := goodIn_app (goodIn_of _ (by decide +kernel)) ggX11_setWindow_X7_fixDownTo
theorem dX11_setWindow_0 : decode cX11_setWindow 0 = .ok (.iload_n 1, 1) := by decide +kernel
theorem dX11_setWindow_1 : decode cX11_setWindow 1 = .ok (.ifCond .lt 9, 3) := by decide +kernel
theorem dX11_setWindow_4 : decode cX11_setWindow 4 = .ok (.iload_n 1, 1) := by decide +kernel
theorem dX11_setWindow_5 : decode cX11_setWindow 5 = .ok (.bipush 30, 2) := by decide +kernel
theorem dX11_setWindow_7 : decode cX11_setWindow 7 = .ok (.if_icmp .le 13, 3) := by decide +kernel
theorem dX11_setWindow_10 : decode cX11_setWindow 10 = .ok (.new 51, 3) := by decide +kernel
theorem dX11_setWindow_13 : decode cX11_setWindow 13 = .ok (.dup, 1) := by decide +kernel
theorem dX11_setWindow_14 : decode cX11_setWindow 14 = .ok (.ldc 109, 2) := by decide +kernel
theorem dX11_setWindow_16 : decode cX11_setWindow 16 = .ok (.invokespecial 55, 3) := by decide +kernel
theorem dX11_setWindow_19 : decode cX11_setWindow 19 = .ok (.athrow, 1) := by decide +kernel
theorem dX11_setWindow_20 : decode cX11_setWindow 20 = .ok (.aload_n 0, 1) := by decide +kernel
theorem dX11_setWindow_21 : decode cX11_setWindow 21 = .ok (.getfield 22, 3) := by decide +kernel
theorem dX11_setWindow_24 : decode cX11_setWindow 24 = .ok (.aload_n 0, 1) := by decide +kernel
theorem dX11_setWindow_25 : decode cX11_setWindow 25 = .ok (.getfield 10, 3) := by decide +kernel
theorem dX11_setWindow_28 : decode cX11_setWindow 28 = .ok (.invokevirtual 73, 3) := by decide +kernel
theorem dX11_setWindow_31 : decode cX11_setWindow 31 = .ok (.aload_n 0, 1) := by decide +kernel
theorem dX11_setWindow_32 : decode cX11_setWindow 32 = .ok (.getfield 10, 3) := by decide +kernel
theorem dX11_setWindow_35 : decode cX11_setWindow 35 = .ok (.getfield 58, 3) := by decide +kernel
theorem dX11_setWindow_38 : decode cX11_setWindow 38 = .ok (.getfield 111, 3) := by decide +kernel
theorem dX11_setWindow_41 : decode cX11_setWindow 41 = .ok (.istore_n 2, 1) := by decide +kernel
theorem dX11_setWindow_42 : decode cX11_setWindow 42 = .ok (.aload_n 0, 1) := by decide +kernel
theorem dX11_setWindow_43 : decode cX11_setWindow 43 = .ok (.getfield 10, 3) := by decide +kernel
theorem dX11_setWindow_46 : decode cX11_setWindow 46 = .ok (.getfield 58, 3) := by decide +kernel
theorem dX11_setWindow_49 : decode cX11_setWindow 49 = .ok (.iload_n 1, 1) := by decide +kernel
theorem dX11_setWindow_50 : decode cX11_setWindow 50 = .ok (.putfield 111, 3) := by decide +kernel
theorem dX11_setWindow_53 : decode cX11_setWindow 53 = .ok (.aload_n 0, 1) := by decide +kernel
theorem dX11_setWindow_54 : decode cX11_setWindow 54 = .ok (.getfield 10, 3) := by decide +kernel
theorem dX11_setWindow_57 : decode cX11_setWindow 57 = .ok (.getfield 58, 3) := by decide +kernel
theorem dX11_setWindow_60 : decode cX11_setWindow 60 = .ok (.iload_n 1, 1) := by decide +kernel
theorem dX11_setWindow_61 : decode cX11_setWindow 61 = .ok (.invokevirtual 106, 3) := by decide +kernel
theorem dX11_setWindow_64 : decode cX11_setWindow 64 = .ok (.iload_n 2, 1) := by decide +kernel
theorem dX11_setWindow_65 : decode cX11_setWindow 65 = .ok (.ireturn, 1) := by decide +kernel
set_option maxRecDepth 20000 in
theorem ggX11_removeEntry_X11_isEntry : GoodIn wsX11_removeEntry wsX11_isEntry := goodIn_r _ [12, 4, 5, 13, 147, 148, 149, 150, 151, 152, 153, 154, 164, 165, 166] (by decide +kernel) (by decide +kernel)
set_option maxRecDepth 20000 in
theorem gX11_removeEntry_X11_isEntry : GoodIn wsX11_removeEntry (wsV RX11 114 RX11 yX11_isEntry wsX11_isEntry) := goodIn_app (goodIn_of _ (by decide +kernel)) ggX11_removeEntry_X11_isEntry
set_option maxRecDepth 20000 in
theorem ggX11_removeEntry_X2_push : GoodIn wsX11_removeEntry wsX2_push := goodIn_r _ [18, 19, 20, 21, 22, 23, 17, 24, 25, 26, 27, 28, 29, 30, 31, 32, 33, 34, 35, 36, 37, 38, 39, 40, 41, 42, 43, 44, 45, 46, 47, 48, 49, 50, 51, 52, 53, 54, 55, 56, 57, 58, 59, 60, 61, 62, 63, 64, 65, 66, 67, 68, 69, 70, 71, 72, 73, 167, 168, 153, 154, 164, 165, 166, 155, 156, 157, 158, 159, 160, 161, 162, 163] (by decide +kernel) (by decide +kernel)
set_option maxRecDepth 20000 in
theorem gX11_removeEntry_X2_push : GoodIn wsX11_removeEntry (wsV RX11 73 RX2 yX2_push wsX2_push) := goodIn_app (goodIn_of _ (by decide +kernel)) ggX11_removeEntry_X2_push
set_option maxRecDepth 20000 in
theorem ggX11_removeEntry_X1_remove : GoodIn wsX11_removeEntry wsX1_remove := goodIn_r _ [77, 43, 41, 42, 78, 79, 80, 39, 81, 82, 83, 46, 84, 85, 86, 87, 88, 89, 90, 91, 164, 165, 166] (by decide +kernel) (by decide +kernel)
set_option maxRecDepth 20000 in
theorem gX11_removeEntry_X1_remove : GoodIn wsX11_removeEntry (wsV RX11 126 RX1 yX1_remove wsX1_remove) := goodIn_app (goodIn_of _ (by decide +kernel)) ggX11_removeEntry_X1_remove
set_option maxRecDepth 20000 in
theorem ggX11_removeEntry_X8_translate : GoodIn wsX11_removeEntry wsX8_translate := goodIn_r _ [95, 35, 34, 96, 97, 98, 59, 99, 67, 66, 68, 65, 61, 62, 63, 64, 69, 100, 101, 102, 39, 103, 104, 49, 50, 51, 105, 106, 107, 108, 109, 110, 46, 111, 112, 113, 114, 115, 116, 117, 118, 119, 120, 121, 43, 41, 82, 83, 84, 122, 123, 124, 125, 89, 90, 91, 42, 126, 86, 87, 127, 79, 80, 81, 128, 129, 130, 131, 132, 133, 134, 135, 136, 137, 138, 139, 140, 141, 142, 143, 144, 145, 146, 153, 154, 155, 156, 157, 158, 159, 160, 161, 162, 163, 164, 165, 166] (by decide +kernel) (by decide +kernel)
set_option maxRecDepth 20000 in
theorem gX11_removeEntry_X8_translate : GoodIn wsX11_removeEntry (wsV RX11 99 RX8 yX8_translate wsX8_translate) := goodIn_app (goodIn_of _ (by decide +kernel)) ggX11_removeEntry_X8_translate
theorem dX11_removeEntry_0 : decode cX11_removeEntry 0 = .ok (.aload_n 0, 1) := by decide +kernel
theorem dX11_removeEntry_1 : decode cX11_removeEntry 1 = .ok (.iload_n 1, 1) := by decide +kernel
theorem dX11_removeEntry_2 : decode cX11_removeEntry 2 = .ok (.invokevirtual 114, 3) := by decide +kernel
theorem dX11_removeEntry_5 : decode cX11_removeEntry 5 = .ok (.ifCond .ne 13, 3) := by decide +kernel
theorem dX11_removeEntry_8 : decode cX11_removeEntry 8 = .ok (.new 117, 3) := by decide +kernel
theorem dX11_removeEntry_11 : decode cX11_removeEntry 11 = .ok (.dup, 1) := by decide +kernel
theorem dX11_removeEntry_12 : decode cX11_removeEntry 12 = .ok (.ldc 119, 2) := by decide +kernel
theorem dX11_removeEntry_14 : decode cX11_removeEntry 14 = .ok (.invokespecial 121, 3) := by decide +kernel
theorem dX11_removeEntry_17 : decode cX11_removeEntry 17 = .ok (.athrow, 1) := by decide +kernel
theorem dX11_removeEntry_18 : decode cX11_removeEntry 18 = .ok (.aload_n 0, 1) := by decide +kernel
theorem dX11_removeEntry_19 : decode cX11_removeEntry 19 = .ok (.getfield 22, 3) := by decide +kernel
theorem dX11_removeEntry_22 : decode cX11_removeEntry 22 = .ok (.aload_n 0, 1) := by decide +kernel
theorem dX11_removeEntry_23 : decode cX11_removeEntry 23 = .ok (.getfield 10, 3) := by decide +kernel
theorem dX11_removeEntry_26 : decode cX11_removeEntry 26 = .ok (.invokevirtual 73, 3) := by decide +kernel
theorem dX11_removeEntry_29 : decode cX11_removeEntry 29 = .ok (.aload_n 0, 1) := by decide +kernel
theorem dX11_removeEntry_30 : decode cX11_removeEntry 30 = .ok (.getfield 10, 3) := by decide +kernel
theorem dX11_removeEntry_33 : decode cX11_removeEntry 33 = .ok (.getfield 122, 3) := by decide +kernel
theorem dX11_removeEntry_36 : decode cX11_removeEntry 36 = .ok (.iload_n 1, 1) := by decide +kernel
theorem dX11_removeEntry_37 : decode cX11_removeEntry 37 = .ok (.invokevirtual 126, 3) := by decide +kernel
theorem dX11_removeEntry_40 : decode cX11_removeEntry 40 = .ok (.aload_n 0, 1) := by decide +kernel
theorem dX11_removeEntry_41 : decode cX11_removeEntry 41 = .ok (.getfield 10, 3) := by decide +kernel
theorem dX11_removeEntry_44 : decode cX11_removeEntry 44 = .ok (.invokevirtual 99, 3) := by decide +kernel
theorem dX11_removeEntry_47 : decode cX11_removeEntry 47 = .ok (.aload_n 0, 1) := by decide +kernel
theorem dX11_removeEntry_48 : decode cX11_removeEntry 48 = .ok (.getfield 10, 3) := by decide +kernel
theorem dX11_removeEntry_51 : decode cX11_removeEntry 51 = .ok (.getfield 58, 3) := by decide +kernel
theorem dX11_removeEntry_54 : decode cX11_removeEntry 54 = .ok (.getfield 81, 3) := by decide +kernel
theorem dX11_removeEntry_57 : decode cX11_removeEntry 57 = .ok (.ireturn, 1) := by decide +kernel
set_option maxRecDepth 20000 in
theorem ggX11_renameEntry_X11_isEntry : GoodIn wsX11_renameEntry wsX11_isEntry := goodIn_r _ [12, 4, 5, 13, 146, 147, 148, 149, 150, 151, 152, 153, 154, 155, 156] (by decide +kernel) (by decide +kernel)
set_option maxRecDepth 20000 in
theorem gX11_renameEntry_X11_isEntry : GoodIn wsX11_renameEntry (wsV RX11 114 RX11 yX11_isEntry wsX11_isEntry) := goodIn_app (goodIn_of _ (by decide +kernel)) ggX11_renameEntry_X11_isEntry
set_option maxRecDepth 20000 in
theorem ggX11_renameEntry_X2_push : GoodIn wsX11_renameEntry wsX2_push := goodIn_r _ [18, 19, 20, 21, 22, 23, 17, 24, 25, 26, 27, 28, 29, 30, 31, 32, 33, 34, 35, 36, 37, 38, 39, 40, 41, 42, 43, 44, 45, 46, 47, 48, 49, 50, 51, 52, 53, 54, 55, 56, 57, 58, 59, 60, 61, 62, 63, 64, 65, 66, 67, 68, 69, 70, 71, 72, 73, 157, 158, 152, 153, 154, 155, 156, 159, 160, 161, 162, 163, 164, 165, 166, 167] (by decide +kernel) (by decide +kernel)
set_option maxRecDepth 20000 in
theorem gX11_renameEntry_X2_push : GoodIn wsX11_renameEntry (wsV RX11 73 RX2 yX2_push wsX2_push) := goodIn_app (goodIn_of _ (by decide +kernel)) ggX11_renameEntry_X2_push
set_option maxRecDepth 20000 in
theorem ggX11_renameEntry_X1_wordOf : GoodIn wsX11_renameEntry wsX1_wordOf := goodIn_r _ [77, 42, 78, 79, 46, 80, 154, 155, 156] (by decide +kernel) (by decide +kernel)
set_option maxRecDepth 20000 in
theorem gX11_renameEntry_X1_wordOf : GoodIn wsX11_renameEntry (wsV RX11 131 RX1 yX1_wordOf wsX1_wordOf) := goodIn_app (goodIn_of _ (by decide +kernel)) ggX11_renameEntry_X1_wordOf
set_option maxRecDepth 20000 in
theorem ggX11_renameEntry_X6_put_ : GoodIn wsX11_renameEntry wsX6_put_ := goodIn_r _ [83] (by decide +kernel) (by decide +kernel)
set_option maxRecDepth 20000 in
theorem gX11_renameEntry_X6_put_ : GoodIn wsX11_renameEntry (va_wsS RX11 139 yX6_put_ wsX6_put_) := goodIn_app (goodIn_of _ (by decide +kernel)) ggX11_renameEntry_X6_put_
set_option maxRecDepth 20000 in
theorem ggX11_renameEntry_X8_translate : GoodIn wsX11_renameEntry wsX8_translate := goodIn_r _ [87, 35, 34, 88, 89, 90, 59, 91, 67, 66, 68, 65, 61, 62, 63, 64, 69, 92, 93, 94, 39, 95, 96, 49, 50, 51, 97, 98, 99, 100, 101, 102, 46, 103, 104, 105, 106, 107, 108, 109, 110, 111, 112, 113, 43, 41, 78, 79, 80, 114, 115, 116, 117, 75, 76, 77, 42, 118, 82, 83, 119, 120, 121, 122, 123, 124, 125, 126, 127, 128, 129, 130, 131, 132, 133, 134, 135, 136, 137, 138, 139, 140, 141, 152, 153, 159, 160, 161, 162, 163, 164, 165, 166, 167, 154, 155, 156] (by decide +kernel) (by decide +kernel)
set_option maxRecDepth 20000 in
theorem gX11_renameEntry_X8_translate : GoodIn wsX11_renameEntry (wsV RX11 99 RX8 yX8_translate wsX8_translate) := goodIn_app (goodIn_of _ (by decide +kernel)) ggX11_renameEntry_X8_translate
set_option maxRecDepth 20000 in
theorem ggX11_renameEntry_X7_openItemsOf : GoodIn wsX11_renameEntry wsX7_openItemsOf := goodIn_r _ [145, 67, 66, 63, 141, 102, 46, 103, 159, 160, 161, 162, 163, 164, 165, 166, 167] (by decide +kernel) (by decide +kernel)
set_option maxRecDepth 20000 in
theorem gX11_renameEntry_X7_openItemsOf : GoodIn wsX11_renameEntry (wsV RX11 143 RX7 yX7_openItemsOf wsX7_openItemsOf) := goodIn_app (goodIn_of _ (by decide +kernel)) ggX11_renameEntry_X7_openItemsOf
theorem dX11_renameEntry_0 : decode cX11_renameEntry 0 = .ok (.aload_n 0, 1) := by decide +kernel
theorem dX11_renameEntry_1 : decode cX11_renameEntry 1 = .ok (.iload_n 1, 1) := by decide +kernel
theorem dX11_renameEntry_2 : decode cX11_renameEntry 2 = .ok (.invokevirtual 114, 3) := by decide +kernel
theorem dX11_renameEntry_5 : decode cX11_renameEntry 5 = .ok (.ifCond .eq 11, 3) := by decide +kernel
theorem dX11_renameEntry_8 : decode cX11_renameEntry 8 = .ok (.aload_n 0, 1) := by decide +kernel
theorem dX11_renameEntry_9 : decode cX11_renameEntry 9 = .ok (.iload_n 2, 1) := by decide +kernel
theorem dX11_renameEntry_10 : decode cX11_renameEntry 10 = .ok (.invokevirtual 114, 3) := by decide +kernel
theorem dX11_renameEntry_13 : decode cX11_renameEntry 13 = .ok (.ifCond .ne 13, 3) := by decide +kernel
theorem dX11_renameEntry_16 : decode cX11_renameEntry 16 = .ok (.new 117, 3) := by decide +kernel
theorem dX11_renameEntry_19 : decode cX11_renameEntry 19 = .ok (.dup, 1) := by decide +kernel
theorem dX11_renameEntry_20 : decode cX11_renameEntry 20 = .ok (.ldc 119, 2) := by decide +kernel
theorem dX11_renameEntry_22 : decode cX11_renameEntry 22 = .ok (.invokespecial 121, 3) := by decide +kernel
theorem dX11_renameEntry_25 : decode cX11_renameEntry 25 = .ok (.athrow, 1) := by decide +kernel
theorem dX11_renameEntry_26 : decode cX11_renameEntry 26 = .ok (.aload_n 0, 1) := by decide +kernel
theorem dX11_renameEntry_27 : decode cX11_renameEntry 27 = .ok (.getfield 22, 3) := by decide +kernel
theorem dX11_renameEntry_30 : decode cX11_renameEntry 30 = .ok (.aload_n 0, 1) := by decide +kernel
theorem dX11_renameEntry_31 : decode cX11_renameEntry 31 = .ok (.getfield 10, 3) := by decide +kernel
theorem dX11_renameEntry_34 : decode cX11_renameEntry 34 = .ok (.invokevirtual 73, 3) := by decide +kernel
theorem dX11_renameEntry_37 : decode cX11_renameEntry 37 = .ok (.aload_n 0, 1) := by decide +kernel
theorem dX11_renameEntry_38 : decode cX11_renameEntry 38 = .ok (.getfield 10, 3) := by decide +kernel
theorem dX11_renameEntry_41 : decode cX11_renameEntry 41 = .ok (.getfield 122, 3) := by decide +kernel
theorem dX11_renameEntry_44 : decode cX11_renameEntry 44 = .ok (.iload_n 1, 1) := by decide +kernel
theorem dX11_renameEntry_45 : decode cX11_renameEntry 45 = .ok (.invokevirtual 131, 3) := by decide +kernel
theorem dX11_renameEntry_48 : decode cX11_renameEntry 48 = .ok (.lstore_n 3, 1) := by decide +kernel
theorem dX11_renameEntry_49 : decode cX11_renameEntry 49 = .ok (.aload_n 0, 1) := by decide +kernel
theorem dX11_renameEntry_50 : decode cX11_renameEntry 50 = .ok (.getfield 10, 3) := by decide +kernel
theorem dX11_renameEntry_53 : decode cX11_renameEntry 53 = .ok (.getfield 122, 3) := by decide +kernel
theorem dX11_renameEntry_56 : decode cX11_renameEntry 56 = .ok (.iload_n 2, 1) := by decide +kernel
theorem dX11_renameEntry_57 : decode cX11_renameEntry 57 = .ok (.invokevirtual 131, 3) := by decide +kernel
theorem dX11_renameEntry_60 : decode cX11_renameEntry 60 = .ok (.lstore 5, 2) := by decide +kernel
theorem dX11_renameEntry_62 : decode cX11_renameEntry 62 = .ok (.aload_n 0, 1) := by decide +kernel
theorem dX11_renameEntry_63 : decode cX11_renameEntry 63 = .ok (.getfield 10, 3) := by decide +kernel
theorem dX11_renameEntry_66 : decode cX11_renameEntry 66 = .ok (.getfield 122, 3) := by decide +kernel
theorem dX11_renameEntry_69 : decode cX11_renameEntry 69 = .ok (.getfield 135, 3) := by decide +kernel
theorem dX11_renameEntry_72 : decode cX11_renameEntry 72 = .ok (.iload_n 1, 1) := by decide +kernel
theorem dX11_renameEntry_73 : decode cX11_renameEntry 73 = .ok (.lload 5, 2) := by decide +kernel
theorem dX11_renameEntry_75 : decode cX11_renameEntry 75 = .ok (.invokestatic 139, 3) := by decide +kernel
theorem dX11_renameEntry_78 : decode cX11_renameEntry 78 = .ok (.aload_n 0, 1) := by decide +kernel
theorem dX11_renameEntry_79 : decode cX11_renameEntry 79 = .ok (.getfield 10, 3) := by decide +kernel
theorem dX11_renameEntry_82 : decode cX11_renameEntry 82 = .ok (.invokevirtual 99, 3) := by decide +kernel
theorem dX11_renameEntry_85 : decode cX11_renameEntry 85 = .ok (.lload_n 3, 1) := by decide +kernel
theorem dX11_renameEntry_86 : decode cX11_renameEntry 86 = .ok (.lload 5, 2) := by decide +kernel
theorem dX11_renameEntry_88 : decode cX11_renameEntry 88 = .ok (.lcmp, 1) := by decide +kernel
theorem dX11_renameEntry_89 : decode cX11_renameEntry 89 = .ok (.ifCond .ne 7, 3) := by decide +kernel
theorem dX11_renameEntry_92 : decode cX11_renameEntry 92 = .ok (.iconst 0, 1) := by decide +kernel
theorem dX11_renameEntry_93 : decode cX11_renameEntry 93 = .ok (.goto 14, 3) := by decide +kernel
theorem dX11_renameEntry_96 : decode cX11_renameEntry 96 = .ok (.aload_n 0, 1) := by decide +kernel
theorem dX11_renameEntry_97 : decode cX11_renameEntry 97 = .ok (.getfield 10, 3) := by decide +kernel
theorem dX11_renameEntry_100 : decode cX11_renameEntry 100 = .ok (.getfield 58, 3) := by decide +kernel
theorem dX11_renameEntry_103 : decode cX11_renameEntry 103 = .ok (.iload_n 1, 1) := by decide +kernel
theorem dX11_renameEntry_104 : decode cX11_renameEntry 104 = .ok (.invokevirtual 143, 3) := by decide +kernel
theorem dX11_renameEntry_107 : decode cX11_renameEntry 107 = .ok (.ireturn, 1) := by decide +kernel
set_option maxRecDepth 20000 in
theorem ggX11_learn_X11_isItem : GoodIn wsX11_learn wsX11_isItem := goodIn_r _ [17, 7, 8, 18, 197, 198, 199, 200, 201, 202, 203, 204, 205, 206, 207, 208, 209, 210, 211, 212, 213] (by decide +kernel) (by decide +kernel)
set_option maxRecDepth 20000 in
theorem gX11_learn_X11_isItem : GoodIn wsX11_learn (wsV RX11 147 RX11 yX11_isItem wsX11_isItem) := goodIn_app (goodIn_of _ (by decide +kernel)) ggX11_learn_X11_isItem
set_option maxRecDepth 20000 in
theorem ggX11_learn_X7_firstOf : GoodIn wsX11_learn wsX7_firstOf := goodIn_r _ [23, 24, 25, 26, 27, 28, 29, 30, 205, 206, 207, 208, 209, 210, 211, 212, 213] (by decide +kernel) (by decide +kernel)
set_option maxRecDepth 20000 in
theorem gX11_learn_X7_firstOf : GoodIn wsX11_learn (wsV RX11 152 RX7 yX7_firstOf wsX7_firstOf) := goodIn_app (goodIn_of _ (by decide +kernel)) ggX11_learn_X7_firstOf
set_option maxRecDepth 20000 in
theorem ggX11_learn_X5_of : GoodIn wsX11_learn wsX5_of := goodIn_r _ [34, 35, 28, 29, 30, 36, 37, 33, 38] (by decide +kernel) (by decide +kernel)
set_option maxRecDepth 20000 in
theorem gX11_learn_X5_of : GoodIn wsX11_learn (va_wsS RX11 157 yX5_of wsX5_of) := goodIn_app (goodIn_of _ (by decide +kernel)) ggX11_learn_X5_of
set_option maxRecDepth 20000 in
theorem ggX11_learn_X1_hasRoomFor : GoodIn wsX11_learn wsX1_hasRoomFor := goodIn_r _ [43, 44, 45, 46, 47, 42, 48, 49, 50, 51, 29, 52, 214, 215, 216] (by decide +kernel) (by decide +kernel)
set_option maxRecDepth 20000 in
theorem gX11_learn_X1_hasRoomFor : GoodIn wsX11_learn (wsV RX11 163 RX1 yX1_hasRoomFor wsX1_hasRoomFor) := goodIn_app (goodIn_of _ (by decide +kernel)) ggX11_learn_X1_hasRoomFor
set_option maxRecDepth 20000 in
theorem ggX11_learn_X2_push : GoodIn wsX11_learn wsX2_push := goodIn_r _ [57, 58, 59, 60, 61, 62, 56, 63, 64, 65, 66, 67, 68, 69, 70, 71, 72, 73, 74, 75, 76, 77, 42, 78, 49, 79, 44, 80, 81, 29, 82, 83, 84, 85, 86, 87, 88, 89, 90, 91, 92, 93, 22, 94, 95, 25, 96, 97, 26, 24, 98, 99, 100, 101, 102, 103, 104, 217, 218, 203, 204, 214, 215, 216, 205, 206, 207, 208, 209, 210, 211, 212, 213] (by decide +kernel) (by decide +kernel)
set_option maxRecDepth 20000 in
theorem gX11_learn_X2_push : GoodIn wsX11_learn (wsV RX11 73 RX2 yX2_push wsX2_push) := goodIn_app (goodIn_of _ (by decide +kernel)) ggX11_learn_X2_push
set_option maxRecDepth 20000 in
theorem ggX11_learn_X7_wordOf : GoodIn wsX11_learn wsX7_wordOf := goodIn_r _ [108, 24, 109, 110, 111, 22, 112, 97, 95, 113, 51, 29, 52, 114, 20, 21, 23, 25, 26, 27, 28, 30, 115, 116, 117, 118, 119, 120, 121, 122, 123, 124, 125, 126, 127, 128, 129, 130, 131, 132, 133, 134, 135, 136, 137, 138, 139, 140, 141, 142, 143, 144, 145, 146, 205, 206, 207, 208, 209, 210, 211, 212, 213] (by decide +kernel) (by decide +kernel)
set_option maxRecDepth 20000 in
theorem gX11_learn_X7_wordOf : GoodIn wsX11_learn (wsV RX11 169 RX7 yX7_wordOf wsX7_wordOf) := goodIn_app (goodIn_of _ (by decide +kernel)) ggX11_learn_X7_wordOf
set_option maxRecDepth 20000 in
theorem ggX11_learn_X1_add : GoodIn wsX11_learn wsX1_add := goodIn_r _ [150, 49, 44, 79, 151, 152, 29, 153, 214, 215, 216] (by decide +kernel) (by decide +kernel)
set_option maxRecDepth 20000 in
theorem gX11_learn_X1_add : GoodIn wsX11_learn (wsV RX11 172 RX1 yX1_add wsX1_add) := goodIn_app (goodIn_of _ (by decide +kernel)) ggX11_learn_X1_add
set_option maxRecDepth 20000 in
theorem ggX11_learn_X8_translate : GoodIn wsX11_learn wsX8_translate := goodIn_r _ [157, 74, 73, 158, 159, 160, 22, 161, 98, 24, 99, 26, 95, 25, 96, 97, 100, 162, 163, 164, 42, 165, 166, 84, 85, 86, 167, 32, 33, 34, 35, 28, 29, 30, 36, 37, 38, 168, 169, 170, 45, 46, 47, 48, 44, 49, 50, 51, 52, 171, 172, 173, 174, 175, 176, 177, 79, 178, 152, 153, 179, 180, 181, 182, 183, 184, 185, 186, 187, 188, 189, 190, 191, 192, 193, 194, 195, 196, 114, 20, 21, 23, 27, 203, 204, 205, 206, 207, 208, 209, 210, 211, 212, 213, 214, 215, 216] (by decide +kernel) (by decide +kernel)
set_option maxRecDepth 20000 in
theorem gX11_learn_X8_translate : GoodIn wsX11_learn (wsV RX11 99 RX8 yX8_translate wsX8_translate) := goodIn_app (goodIn_of _ (by decide +kernel)) ggX11_learn_X8_translate
