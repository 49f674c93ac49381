theorem dX0_init_0 : decode cX0_init 0 = .ok (.aload_n 0, 1) := by decide +kernel
theorem dX0_init_1 : decode cX0_init 1 = .ok (.invokespecial 3, 3) := by decide +kernel
theorem dX0_init_4 : decode cX0_init 4 = .ok (.aload_n 0, 1) := by decide +kernel
theorem dX0_init_5 : decode cX0_init 5 = .ok (.bipush 12, 2) := by decide +kernel
theorem dX0_init_7 : decode cX0_init 7 = .ok (.bipush 23, 2) := by decide +kernel
theorem dX0_init_9 : decode cX0_init 9 = .ok (.multianewarray 9 2, 4) := by decide +kernel
theorem dX0_init_13 : decode cX0_init 13 = .ok (.putfield 11, 3) := by decide +kernel
theorem dX0_init_16 : decode cX0_init 16 = .ok (.aload_n 0, 1) := by decide +kernel
theorem dX0_init_17 : decode cX0_init 17 = .ok (.bipush 12, 2) := by decide +kernel
theorem dX0_init_19 : decode cX0_init 19 = .ok (.newarray .int, 2) := by decide +kernel
theorem dX0_init_21 : decode cX0_init 21 = .ok (.putfield 16, 3) := by decide +kernel
theorem dX0_init_24 : decode cX0_init 24 = .ok (.aload_n 0, 1) := by decide +kernel
theorem dX0_init_25 : decode cX0_init 25 = .ok (.bipush 12, 2) := by decide +kernel
theorem dX0_init_27 : decode cX0_init 27 = .ok (.newarray .int, 2) := by decide +kernel
theorem dX0_init_29 : decode cX0_init 29 = .ok (.putfield 20, 3) := by decide +kernel
theorem dX0_init_32 : decode cX0_init 32 = .ok (.aload_n 0, 1) := by decide +kernel
theorem dX0_init_33 : decode cX0_init 33 = .ok (.aload_n 1, 1) := by decide +kernel
theorem dX0_init_34 : decode cX0_init 34 = .ok (.putfield 23, 3) := by decide +kernel
theorem dX0_init_37 : decode cX0_init 37 = .ok (.return_, 1) := by decide +kernel
set_option maxRecDepth 20000 in
theorem ggX0_settle_X0_findFree : GoodIn wsX0_settle wsX0_findFree := goodIn_r _ [10, 1, 11, 12, 13, 14, 51, 52, 53, 54, 55, 56, 57, 58, 59, 60, 61, 62, 63, 64, 65, 66, 67, 68, 69] (by decide +kernel) (by decide +kernel)
set_option maxRecDepth 20000 in
theorem gX0_settle_X0_findFree : GoodIn wsX0_settle (wsV RX0 27 RX0 yX0_findFree wsX0_findFree) := goodIn_app (goodIn_of _ (by decide +kernel)) ggX0_settle_X0_findFree
set_option maxRecDepth 20000 in
theorem ggX0_settle_X0_layRow : GoodIn wsX0_settle wsX0_layRow := goodIn_r _ [18, 11, 19, 20, 14, 1, 21, 22, 23, 24, 25, 26, 27, 28, 51, 52, 53, 54, 55, 56, 57, 58, 59, 60, 61, 62, 63, 64, 65, 66, 67, 68, 69] (by decide +kernel) (by decide +kernel)
set_option maxRecDepth 20000 in
theorem gX0_settle_X0_layRow : GoodIn wsX0_settle (wsV RX0 34 RX0 yX0_layRow wsX0_layRow) := goodIn_app (goodIn_of _ (by decide +kernel)) ggX0_settle_X0_layRow
set_option maxRecDepth 20000 in
theorem ggX0_settle_X0_extend : GoodIn wsX0_settle wsX0_extend := goodIn_r _ [32, 11, 19, 33, 34, 35, 36, 37, 38, 9, 39, 2, 1, 20, 4, 40, 3, 41, 42, 43, 44, 45, 46, 47, 48, 5, 49, 50, 51, 52, 53, 54, 55, 56, 57, 58, 59, 60, 61, 62, 63, 64, 65, 66, 67, 68, 69] (by decide +kernel) (by decide +kernel)
set_option maxRecDepth 20000 in
theorem gX0_settle_X0_extend : GoodIn wsX0_settle (wsV RX0 51 RX0 yX0_extend wsX0_extend) := goodIn_app (goodIn_of _ (by decide +kernel)) ggX0_settle_X0_extend
theorem dX0_settle_0 : decode cX0_settle 0 = .ok (.aload_n 0, 1) := by decide +kernel
theorem dX0_settle_1 : decode cX0_settle 1 = .ok (.invokevirtual 27, 3) := by decide +kernel
theorem dX0_settle_4 : decode cX0_settle 4 = .ok (.iconst 0, 1) := by decide +kernel
theorem dX0_settle_5 : decode cX0_settle 5 = .ok (.istore_n 2, 1) := by decide +kernel
theorem dX0_settle_6 : decode cX0_settle 6 = .ok (.iload_n 2, 1) := by decide +kernel
theorem dX0_settle_7 : decode cX0_settle 7 = .ok (.aload_n 0, 1) := by decide +kernel
theorem dX0_settle_8 : decode cX0_settle 8 = .ok (.getfield 30, 3) := by decide +kernel
theorem dX0_settle_11 : decode cX0_settle 11 = .ok (.if_icmp .ge 14, 3) := by decide +kernel
theorem dX0_settle_14 : decode cX0_settle 14 = .ok (.aload_n 0, 1) := by decide +kernel
theorem dX0_settle_15 : decode cX0_settle 15 = .ok (.iload_n 2, 1) := by decide +kernel
theorem dX0_settle_16 : decode cX0_settle 16 = .ok (.invokevirtual 34, 3) := by decide +kernel
theorem dX0_settle_19 : decode cX0_settle 19 = .ok (.iinc 2 1, 3) := by decide +kernel
theorem dX0_settle_22 : decode cX0_settle 22 = .ok (.goto (-16), 3) := by decide +kernel
theorem dX0_settle_25 : decode cX0_settle 25 = .ok (.aload_n 0, 1) := by decide +kernel
theorem dX0_settle_26 : decode cX0_settle 26 = .ok (.iconst 0, 1) := by decide +kernel
theorem dX0_settle_27 : decode cX0_settle 27 = .ok (.putfield 38, 3) := by decide +kernel
theorem dX0_settle_30 : decode cX0_settle 30 = .ok (.aload_n 0, 1) := by decide +kernel
theorem dX0_settle_31 : decode cX0_settle 31 = .ok (.iconst 0, 1) := by decide +kernel
theorem dX0_settle_32 : decode cX0_settle 32 = .ok (.putfield 41, 3) := by decide +kernel
theorem dX0_settle_35 : decode cX0_settle 35 = .ok (.aload_n 0, 1) := by decide +kernel
theorem dX0_settle_36 : decode cX0_settle 36 = .ok (.iconst 0, 1) := by decide +kernel
theorem dX0_settle_37 : decode cX0_settle 37 = .ok (.putfield 44, 3) := by decide +kernel
theorem dX0_settle_40 : decode cX0_settle 40 = .ok (.aload_n 0, 1) := by decide +kernel
theorem dX0_settle_41 : decode cX0_settle 41 = .ok (.lconst 1, 1) := by decide +kernel
theorem dX0_settle_42 : decode cX0_settle 42 = .ok (.putfield 47, 3) := by decide +kernel
theorem dX0_settle_45 : decode cX0_settle 45 = .ok (.aload_n 0, 1) := by decide +kernel
theorem dX0_settle_46 : decode cX0_settle 46 = .ok (.iload_n 1, 1) := by decide +kernel
theorem dX0_settle_47 : decode cX0_settle 47 = .ok (.invokevirtual 51, 3) := by decide +kernel
theorem dX0_settle_50 : decode cX0_settle 50 = .ok (.return_, 1) := by decide +kernel
set_option maxRecDepth 20000 in
theorem ggX0_extend_X7_has : GoodIn wsX0_extend wsX7_has := goodIn_r _ [5] (by decide +kernel) (by decide +kernel)
set_option maxRecDepth 20000 in
theorem gX0_extend_X7_has_n59 : GoodIn wsX0_extend (wsX7_has) := ggX0_extend_X7_has
set_option maxRecDepth 20000 in
theorem ggX0_extend_X0_take : GoodIn wsX0_extend wsX0_take := goodIn_r _ [10, 11, 12, 13, 14, 15, 16, 17, 18, 19, 9, 20, 1, 2, 21, 22, 23, 24, 25, 26, 4, 27, 28, 29, 30, 31, 32, 33, 34, 35, 36, 37, 38, 39, 40, 41, 42, 43, 44, 45, 46] (by decide +kernel) (by decide +kernel)
set_option maxRecDepth 20000 in
theorem gX0_extend_X0_take : GoodIn wsX0_extend (wsV RX0 63 RX0 yX0_take wsX0_take) := goodIn_app (goodIn_of _ (by decide +kernel)) ggX0_extend_X0_take
theorem dX0_extend_0 : decode cX0_extend 0 = .ok (.iconst 0, 1) := by decide +kernel
theorem dX0_extend_1 : decode cX0_extend 1 = .ok (.istore_n 2, 1) := by decide +kernel
theorem dX0_extend_2 : decode cX0_extend 2 = .ok (.iload_n 2, 1) := by decide +kernel
theorem dX0_extend_3 : decode cX0_extend 3 = .ok (.aload_n 0, 1) := by decide +kernel
theorem dX0_extend_4 : decode cX0_extend 4 = .ok (.getfield 23, 3) := by decide +kernel
theorem dX0_extend_7 : decode cX0_extend 7 = .ok (.getfield 54, 3) := by decide +kernel
theorem dX0_extend_10 : decode cX0_extend 10 = .ok (.if_icmp .ge 22, 3) := by decide +kernel
theorem dX0_extend_13 : decode cX0_extend 13 = .ok (.iload_n 1, 1) := by decide +kernel
theorem dX0_extend_14 : decode cX0_extend 14 = .ok (.iload_n 2, 1) := by decide +kernel
theorem dX0_extend_15 : decode cX0_extend 15 = .ok (.invokestatic 59, 3) := by decide +kernel
theorem dX0_extend_18 : decode cX0_extend 18 = .ok (.ifCond .eq 8, 3) := by decide +kernel
theorem dX0_extend_21 : decode cX0_extend 21 = .ok (.aload_n 0, 1) := by decide +kernel
theorem dX0_extend_22 : decode cX0_extend 22 = .ok (.iload_n 2, 1) := by decide +kernel
theorem dX0_extend_23 : decode cX0_extend 23 = .ok (.invokevirtual 63, 3) := by decide +kernel
theorem dX0_extend_26 : decode cX0_extend 26 = .ok (.iinc 2 1, 3) := by decide +kernel
theorem dX0_extend_29 : decode cX0_extend 29 = .ok (.goto (-27), 3) := by decide +kernel
theorem dX0_extend_32 : decode cX0_extend 32 = .ok (.return_, 1) := by decide +kernel
set_option maxRecDepth 20000 in
theorem ggX0_kindNumber_J6_bitCount_0f7a4 : GoodIn wsX0_kindNumber wsJ6_bitCount_0f7a4 := goodIn_r _ [11, 12, 13, 14] (by decide +kernel) (by decide +kernel)
set_option maxRecDepth 20000 in
theorem gX0_kindNumber_J6_bitCount_0f7a4 : GoodIn wsX0_kindNumber (va_wsS RX0 66 yJ6_bitCount_0f7a4 wsJ6_bitCount_0f7a4) := goodIn_app (goodIn_of _ (by decide +kernel)) ggX0_kindNumber_J6_bitCount_0f7a4
theorem dX0_kindNumber_0 : decode cX0_kindNumber 0 = .ok (.aload_n 0, 1) := by decide +kernel
theorem dX0_kindNumber_1 : decode cX0_kindNumber 1 = .ok (.getfield 38, 3) := by decide +kernel
theorem dX0_kindNumber_4 : decode cX0_kindNumber 4 = .ok (.aload_n 0, 1) := by decide +kernel
theorem dX0_kindNumber_5 : decode cX0_kindNumber 5 = .ok (.getfield 30, 3) := by decide +kernel
theorem dX0_kindNumber_8 : decode cX0_kindNumber 8 = .ok (.if_icmp .ge 7, 3) := by decide +kernel
theorem dX0_kindNumber_11 : decode cX0_kindNumber 11 = .ok (.iconst 0, 1) := by decide +kernel
theorem dX0_kindNumber_12 : decode cX0_kindNumber 12 = .ok (.goto 16, 3) := by decide +kernel
theorem dX0_kindNumber_15 : decode cX0_kindNumber 15 = .ok (.iconst 4, 1) := by decide +kernel
theorem dX0_kindNumber_16 : decode cX0_kindNumber 16 = .ok (.iconst 1, 1) := by decide +kernel
theorem dX0_kindNumber_17 : decode cX0_kindNumber 17 = .ok (.aload_n 0, 1) := by decide +kernel
theorem dX0_kindNumber_18 : decode cX0_kindNumber 18 = .ok (.getfield 44, 3) := by decide +kernel
theorem dX0_kindNumber_21 : decode cX0_kindNumber 21 = .ok (.invokestatic 66, 3) := by decide +kernel
theorem dX0_kindNumber_24 : decode cX0_kindNumber 24 = .ok (.iadd, 1) := by decide +kernel
theorem dX0_kindNumber_25 : decode cX0_kindNumber 25 = .ok (.invokestatic 72, 3) := by decide +kernel
theorem dX0_kindNumber_28 : decode cX0_kindNumber 28 = .ok (.ireturn, 1) := by decide +kernel
theorem dX0_findFree_0 : decode cX0_findFree 0 = .ok (.aload_n 0, 1) := by decide +kernel
theorem dX0_findFree_1 : decode cX0_findFree 1 = .ok (.iconst 0, 1) := by decide +kernel
theorem dX0_findFree_2 : decode cX0_findFree 2 = .ok (.putfield 30, 3) := by decide +kernel
theorem dX0_findFree_5 : decode cX0_findFree 5 = .ok (.iconst 0, 1) := by decide +kernel
theorem dX0_findFree_6 : decode cX0_findFree 6 = .ok (.istore_n 1, 1) := by decide +kernel
theorem dX0_findFree_7 : decode cX0_findFree 7 = .ok (.iload_n 1, 1) := by decide +kernel
theorem dX0_findFree_8 : decode cX0_findFree 8 = .ok (.iconst 2, 1) := by decide +kernel
theorem dX0_findFree_9 : decode cX0_findFree 9 = .ok (.aload_n 0, 1) := by decide +kernel
theorem dX0_findFree_10 : decode cX0_findFree 10 = .ok (.getfield 23, 3) := by decide +kernel
theorem dX0_findFree_13 : decode cX0_findFree 13 = .ok (.getfield 82, 3) := by decide +kernel
theorem dX0_findFree_16 : decode cX0_findFree 16 = .ok (.imul, 1) := by decide +kernel
theorem dX0_findFree_17 : decode cX0_findFree 17 = .ok (.if_icmp .ge 41, 3) := by decide +kernel
theorem dX0_findFree_20 : decode cX0_findFree 20 = .ok (.aload_n 0, 1) := by decide +kernel
theorem dX0_findFree_21 : decode cX0_findFree 21 = .ok (.getfield 23, 3) := by decide +kernel
theorem dX0_findFree_24 : decode cX0_findFree 24 = .ok (.getfield 85, 3) := by decide +kernel
theorem dX0_findFree_27 : decode cX0_findFree 27 = .ok (.iload_n 1, 1) := by decide +kernel
theorem dX0_findFree_28 : decode cX0_findFree 28 = .ok (.baload, 1) := by decide +kernel
theorem dX0_findFree_29 : decode cX0_findFree 29 = .ok (.ifCond .ne 23, 3) := by decide +kernel
theorem dX0_findFree_32 : decode cX0_findFree 32 = .ok (.aload_n 0, 1) := by decide +kernel
theorem dX0_findFree_33 : decode cX0_findFree 33 = .ok (.getfield 16, 3) := by decide +kernel
theorem dX0_findFree_36 : decode cX0_findFree 36 = .ok (.aload_n 0, 1) := by decide +kernel
theorem dX0_findFree_37 : decode cX0_findFree 37 = .ok (.getfield 30, 3) := by decide +kernel
theorem dX0_findFree_40 : decode cX0_findFree 40 = .ok (.iload_n 1, 1) := by decide +kernel
theorem dX0_findFree_41 : decode cX0_findFree 41 = .ok (.iastore, 1) := by decide +kernel
theorem dX0_findFree_42 : decode cX0_findFree 42 = .ok (.aload_n 0, 1) := by decide +kernel
theorem dX0_findFree_43 : decode cX0_findFree 43 = .ok (.dup, 1) := by decide +kernel
theorem dX0_findFree_44 : decode cX0_findFree 44 = .ok (.getfield 30, 3) := by decide +kernel
theorem dX0_findFree_47 : decode cX0_findFree 47 = .ok (.iconst 1, 1) := by decide +kernel
theorem dX0_findFree_48 : decode cX0_findFree 48 = .ok (.iadd, 1) := by decide +kernel
theorem dX0_findFree_49 : decode cX0_findFree 49 = .ok (.putfield 30, 3) := by decide +kernel
theorem dX0_findFree_52 : decode cX0_findFree 52 = .ok (.iinc 1 1, 3) := by decide +kernel
theorem dX0_findFree_55 : decode cX0_findFree 55 = .ok (.goto (-48), 3) := by decide +kernel
theorem dX0_findFree_58 : decode cX0_findFree 58 = .ok (.return_, 1) := by decide +kernel
set_option maxRecDepth 20000 in
theorem ggX0_layRow_X3_brings : GoodIn wsX0_layRow wsX3_brings := goodIn_r _ [10, 11, 12, 13, 23, 24, 25, 26, 27, 28, 29, 30, 31, 32] (by decide +kernel) (by decide +kernel)
set_option maxRecDepth 20000 in
theorem gX0_layRow_X3_brings : GoodIn wsX0_layRow (wsV RX0 89 RX3 yX3_brings wsX3_brings) := goodIn_app (goodIn_of _ (by decide +kernel)) ggX0_layRow_X3_brings
theorem dX0_layRow_0 : decode cX0_layRow 0 = .ok (.iconst 0, 1) := by decide +kernel
theorem dX0_layRow_1 : decode cX0_layRow 1 = .ok (.istore_n 2, 1) := by decide +kernel
theorem dX0_layRow_2 : decode cX0_layRow 2 = .ok (.iload_n 2, 1) := by decide +kernel
theorem dX0_layRow_3 : decode cX0_layRow 3 = .ok (.aload_n 0, 1) := by decide +kernel
theorem dX0_layRow_4 : decode cX0_layRow 4 = .ok (.getfield 23, 3) := by decide +kernel
theorem dX0_layRow_7 : decode cX0_layRow 7 = .ok (.getfield 54, 3) := by decide +kernel
theorem dX0_layRow_10 : decode cX0_layRow 10 = .ok (.if_icmp .ge 32, 3) := by decide +kernel
theorem dX0_layRow_13 : decode cX0_layRow 13 = .ok (.aload_n 0, 1) := by decide +kernel
theorem dX0_layRow_14 : decode cX0_layRow 14 = .ok (.getfield 11, 3) := by decide +kernel
theorem dX0_layRow_17 : decode cX0_layRow 17 = .ok (.iload_n 1, 1) := by decide +kernel
theorem dX0_layRow_18 : decode cX0_layRow 18 = .ok (.aaload, 1) := by decide +kernel
theorem dX0_layRow_19 : decode cX0_layRow 19 = .ok (.iload_n 2, 1) := by decide +kernel
theorem dX0_layRow_20 : decode cX0_layRow 20 = .ok (.aload_n 0, 1) := by decide +kernel
theorem dX0_layRow_21 : decode cX0_layRow 21 = .ok (.getfield 23, 3) := by decide +kernel
theorem dX0_layRow_24 : decode cX0_layRow 24 = .ok (.iload_n 2, 1) := by decide +kernel
theorem dX0_layRow_25 : decode cX0_layRow 25 = .ok (.aload_n 0, 1) := by decide +kernel
theorem dX0_layRow_26 : decode cX0_layRow 26 = .ok (.getfield 16, 3) := by decide +kernel
theorem dX0_layRow_29 : decode cX0_layRow 29 = .ok (.iload_n 1, 1) := by decide +kernel
theorem dX0_layRow_30 : decode cX0_layRow 30 = .ok (.iaload, 1) := by decide +kernel
theorem dX0_layRow_31 : decode cX0_layRow 31 = .ok (.invokevirtual 89, 3) := by decide +kernel
theorem dX0_layRow_34 : decode cX0_layRow 34 = .ok (.i2l, 1) := by decide +kernel
theorem dX0_layRow_35 : decode cX0_layRow 35 = .ok (.lastore, 1) := by decide +kernel
theorem dX0_layRow_36 : decode cX0_layRow 36 = .ok (.iinc 2 1, 3) := by decide +kernel
theorem dX0_layRow_39 : decode cX0_layRow 39 = .ok (.goto (-37), 3) := by decide +kernel
theorem dX0_layRow_42 : decode cX0_layRow 42 = .ok (.iconst 0, 1) := by decide +kernel
theorem dX0_layRow_43 : decode cX0_layRow 43 = .ok (.istore_n 2, 1) := by decide +kernel
theorem dX0_layRow_44 : decode cX0_layRow 44 = .ok (.iload_n 2, 1) := by decide +kernel
theorem dX0_layRow_45 : decode cX0_layRow 45 = .ok (.aload_n 0, 1) := by decide +kernel
theorem dX0_layRow_46 : decode cX0_layRow 46 = .ok (.getfield 30, 3) := by decide +kernel
theorem dX0_layRow_49 : decode cX0_layRow 49 = .ok (.if_icmp .ge 35, 3) := by decide +kernel
theorem dX0_layRow_52 : decode cX0_layRow 52 = .ok (.aload_n 0, 1) := by decide +kernel
theorem dX0_layRow_53 : decode cX0_layRow 53 = .ok (.getfield 11, 3) := by decide +kernel
theorem dX0_layRow_56 : decode cX0_layRow 56 = .ok (.iload_n 1, 1) := by decide +kernel
theorem dX0_layRow_57 : decode cX0_layRow 57 = .ok (.aaload, 1) := by decide +kernel
theorem dX0_layRow_58 : decode cX0_layRow 58 = .ok (.aload_n 0, 1) := by decide +kernel
theorem dX0_layRow_59 : decode cX0_layRow 59 = .ok (.getfield 23, 3) := by decide +kernel
theorem dX0_layRow_62 : decode cX0_layRow 62 = .ok (.getfield 54, 3) := by decide +kernel
theorem dX0_layRow_65 : decode cX0_layRow 65 = .ok (.iload_n 2, 1) := by decide +kernel
theorem dX0_layRow_66 : decode cX0_layRow 66 = .ok (.iadd, 1) := by decide +kernel
theorem dX0_layRow_67 : decode cX0_layRow 67 = .ok (.iload_n 2, 1) := by decide +kernel
theorem dX0_layRow_68 : decode cX0_layRow 68 = .ok (.iload_n 1, 1) := by decide +kernel
theorem dX0_layRow_69 : decode cX0_layRow 69 = .ok (.if_icmp .ne 7, 3) := by decide +kernel
theorem dX0_layRow_72 : decode cX0_layRow 72 = .ok (.lconst 1, 1) := by decide +kernel
theorem dX0_layRow_73 : decode cX0_layRow 73 = .ok (.goto 4, 3) := by decide +kernel
theorem dX0_layRow_76 : decode cX0_layRow 76 = .ok (.lconst 0, 1) := by decide +kernel
theorem dX0_layRow_77 : decode cX0_layRow 77 = .ok (.lastore, 1) := by decide +kernel
theorem dX0_layRow_78 : decode cX0_layRow 78 = .ok (.iinc 2 1, 3) := by decide +kernel
theorem dX0_layRow_81 : decode cX0_layRow 81 = .ok (.goto (-37), 3) := by decide +kernel
theorem dX0_layRow_84 : decode cX0_layRow 84 = .ok (.return_, 1) := by decide +kernel
set_option maxRecDepth 20000 in
theorem ggX0_take_X0_swap : GoodIn wsX0_take wsX0_swap := goodIn_r _ [11, 12, 13, 2, 3, 22, 23, 24, 25, 26, 27, 28, 29, 30, 31, 32, 33, 34, 35, 36, 37, 38, 39, 40] (by decide +kernel) (by decide +kernel)
set_option maxRecDepth 20000 in
theorem gX0_take_X0_swap : GoodIn wsX0_take (wsV RX0 92 RX0 yX0_swap wsX0_swap) := goodIn_app (goodIn_of _ (by decide +kernel)) ggX0_take_X0_swap
set_option maxRecDepth 20000 in
theorem ggX0_take_X0_clearColumn : GoodIn wsX0_take wsX0_clearColumn := goodIn_r _ [17, 3, 2, 12, 13, 18, 19, 20, 21, 22, 23, 24, 25, 26, 27, 28, 29, 30, 31, 32, 33, 34, 35, 36, 37, 38, 39, 40] (by decide +kernel) (by decide +kernel)
set_option maxRecDepth 20000 in
theorem gX0_take_X0_clearColumn : GoodIn wsX0_take (wsV RX0 96 RX0 yX0_clearColumn wsX0_clearColumn) := goodIn_app (goodIn_of _ (by decide +kernel)) ggX0_take_X0_clearColumn
theorem dX0_take_0 : decode cX0_take 0 = .ok (.aload_n 0, 1) := by decide +kernel
theorem dX0_take_1 : decode cX0_take 1 = .ok (.getfield 38, 3) := by decide +kernel
theorem dX0_take_4 : decode cX0_take 4 = .ok (.istore_n 2, 1) := by decide +kernel
theorem dX0_take_5 : decode cX0_take 5 = .ok (.iload_n 2, 1) := by decide +kernel
theorem dX0_take_6 : decode cX0_take 6 = .ok (.aload_n 0, 1) := by decide +kernel
theorem dX0_take_7 : decode cX0_take 7 = .ok (.getfield 30, 3) := by decide +kernel
theorem dX0_take_10 : decode cX0_take 10 = .ok (.if_icmp .ge 22, 3) := by decide +kernel
theorem dX0_take_13 : decode cX0_take 13 = .ok (.aload_n 0, 1) := by decide +kernel
theorem dX0_take_14 : decode cX0_take 14 = .ok (.getfield 11, 3) := by decide +kernel
theorem dX0_take_17 : decode cX0_take 17 = .ok (.iload_n 2, 1) := by decide +kernel
theorem dX0_take_18 : decode cX0_take 18 = .ok (.aaload, 1) := by decide +kernel
theorem dX0_take_19 : decode cX0_take 19 = .ok (.iload_n 1, 1) := by decide +kernel
theorem dX0_take_20 : decode cX0_take 20 = .ok (.laload, 1) := by decide +kernel
theorem dX0_take_21 : decode cX0_take 21 = .ok (.lconst 0, 1) := by decide +kernel
theorem dX0_take_22 : decode cX0_take 22 = .ok (.lcmp, 1) := by decide +kernel
theorem dX0_take_23 : decode cX0_take 23 = .ok (.ifCond .ne 9, 3) := by decide +kernel
theorem dX0_take_26 : decode cX0_take 26 = .ok (.iinc 2 1, 3) := by decide +kernel
theorem dX0_take_29 : decode cX0_take 29 = .ok (.goto (-24), 3) := by decide +kernel
theorem dX0_take_32 : decode cX0_take 32 = .ok (.iload_n 2, 1) := by decide +kernel
theorem dX0_take_33 : decode cX0_take 33 = .ok (.aload_n 0, 1) := by decide +kernel
theorem dX0_take_34 : decode cX0_take 34 = .ok (.getfield 30, 3) := by decide +kernel
theorem dX0_take_37 : decode cX0_take 37 = .ok (.if_icmp .ne 16, 3) := by decide +kernel
theorem dX0_take_40 : decode cX0_take 40 = .ok (.aload_n 0, 1) := by decide +kernel
theorem dX0_take_41 : decode cX0_take 41 = .ok (.dup, 1) := by decide +kernel
theorem dX0_take_42 : decode cX0_take 42 = .ok (.getfield 44, 3) := by decide +kernel
theorem dX0_take_45 : decode cX0_take 45 = .ok (.iconst 1, 1) := by decide +kernel
theorem dX0_take_46 : decode cX0_take 46 = .ok (.iload_n 1, 1) := by decide +kernel
theorem dX0_take_47 : decode cX0_take 47 = .ok (.ishl, 1) := by decide +kernel
theorem dX0_take_48 : decode cX0_take 48 = .ok (.ior, 1) := by decide +kernel
theorem dX0_take_49 : decode cX0_take 49 = .ok (.putfield 44, 3) := by decide +kernel
theorem dX0_take_52 : decode cX0_take 52 = .ok (.return_, 1) := by decide +kernel
theorem dX0_take_53 : decode cX0_take 53 = .ok (.aload_n 0, 1) := by decide +kernel
theorem dX0_take_54 : decode cX0_take 54 = .ok (.iload_n 2, 1) := by decide +kernel
theorem dX0_take_55 : decode cX0_take 55 = .ok (.aload_n 0, 1) := by decide +kernel
theorem dX0_take_56 : decode cX0_take 56 = .ok (.getfield 38, 3) := by decide +kernel
theorem dX0_take_59 : decode cX0_take 59 = .ok (.invokevirtual 92, 3) := by decide +kernel
theorem dX0_take_62 : decode cX0_take 62 = .ok (.aload_n 0, 1) := by decide +kernel
theorem dX0_take_63 : decode cX0_take 63 = .ok (.iload_n 1, 1) := by decide +kernel
theorem dX0_take_64 : decode cX0_take 64 = .ok (.aload_n 0, 1) := by decide +kernel
theorem dX0_take_65 : decode cX0_take 65 = .ok (.getfield 38, 3) := by decide +kernel
theorem dX0_take_68 : decode cX0_take 68 = .ok (.invokevirtual 96, 3) := by decide +kernel
theorem dX0_take_71 : decode cX0_take 71 = .ok (.aload_n 0, 1) := by decide +kernel
theorem dX0_take_72 : decode cX0_take 72 = .ok (.getfield 20, 3) := by decide +kernel
theorem dX0_take_75 : decode cX0_take 75 = .ok (.aload_n 0, 1) := by decide +kernel
theorem dX0_take_76 : decode cX0_take 76 = .ok (.getfield 38, 3) := by decide +kernel
theorem dX0_take_79 : decode cX0_take 79 = .ok (.iload_n 1, 1) := by decide +kernel
theorem dX0_take_80 : decode cX0_take 80 = .ok (.iastore, 1) := by decide +kernel
theorem dX0_take_81 : decode cX0_take 81 = .ok (.aload_n 0, 1) := by decide +kernel
theorem dX0_take_82 : decode cX0_take 82 = .ok (.dup, 1) := by decide +kernel
theorem dX0_take_83 : decode cX0_take 83 = .ok (.getfield 41, 3) := by decide +kernel
theorem dX0_take_86 : decode cX0_take 86 = .ok (.iconst 1, 1) := by decide +kernel
theorem dX0_take_87 : decode cX0_take 87 = .ok (.iload_n 1, 1) := by decide +kernel
theorem dX0_take_88 : decode cX0_take 88 = .ok (.ishl, 1) := by decide +kernel
theorem dX0_take_89 : decode cX0_take 89 = .ok (.ior, 1) := by decide +kernel
theorem dX0_take_90 : decode cX0_take 90 = .ok (.putfield 41, 3) := by decide +kernel
theorem dX0_take_93 : decode cX0_take 93 = .ok (.aload_n 0, 1) := by decide +kernel
theorem dX0_take_94 : decode cX0_take 94 = .ok (.dup, 1) := by decide +kernel
theorem dX0_take_95 : decode cX0_take 95 = .ok (.getfield 38, 3) := by decide +kernel
theorem dX0_take_98 : decode cX0_take 98 = .ok (.iconst 1, 1) := by decide +kernel
theorem dX0_take_99 : decode cX0_take 99 = .ok (.iadd, 1) := by decide +kernel
theorem dX0_take_100 : decode cX0_take 100 = .ok (.putfield 38, 3) := by decide +kernel
theorem dX0_take_103 : decode cX0_take 103 = .ok (.return_, 1) := by decide +kernel
theorem dX0_swap_0 : decode cX0_swap 0 = .ok (.iconst 0, 1) := by decide +kernel
theorem dX0_swap_1 : decode cX0_swap 1 = .ok (.istore_n 3, 1) := by decide +kernel
theorem dX0_swap_2 : decode cX0_swap 2 = .ok (.iload_n 3, 1) := by decide +kernel
theorem dX0_swap_3 : decode cX0_swap 3 = .ok (.aload_n 0, 1) := by decide +kernel
theorem dX0_swap_4 : decode cX0_swap 4 = .ok (.getfield 23, 3) := by decide +kernel
theorem dX0_swap_7 : decode cX0_swap 7 = .ok (.getfield 54, 3) := by decide +kernel
theorem dX0_swap_10 : decode cX0_swap 10 = .ok (.aload_n 0, 1) := by decide +kernel
theorem dX0_swap_11 : decode cX0_swap 11 = .ok (.getfield 30, 3) := by decide +kernel
theorem dX0_swap_14 : decode cX0_swap 14 = .ok (.iadd, 1) := by decide +kernel
theorem dX0_swap_15 : decode cX0_swap 15 = .ok (.if_icmp .ge 45, 3) := by decide +kernel
theorem dX0_swap_18 : decode cX0_swap 18 = .ok (.aload_n 0, 1) := by decide +kernel
theorem dX0_swap_19 : decode cX0_swap 19 = .ok (.getfield 11, 3) := by decide +kernel
theorem dX0_swap_22 : decode cX0_swap 22 = .ok (.iload_n 1, 1) := by decide +kernel
theorem dX0_swap_23 : decode cX0_swap 23 = .ok (.aaload, 1) := by decide +kernel
theorem dX0_swap_24 : decode cX0_swap 24 = .ok (.iload_n 3, 1) := by decide +kernel
theorem dX0_swap_25 : decode cX0_swap 25 = .ok (.laload, 1) := by decide +kernel
theorem dX0_swap_26 : decode cX0_swap 26 = .ok (.lstore 4, 2) := by decide +kernel
theorem dX0_swap_28 : decode cX0_swap 28 = .ok (.aload_n 0, 1) := by decide +kernel
theorem dX0_swap_29 : decode cX0_swap 29 = .ok (.getfield 11, 3) := by decide +kernel
theorem dX0_swap_32 : decode cX0_swap 32 = .ok (.iload_n 1, 1) := by decide +kernel
theorem dX0_swap_33 : decode cX0_swap 33 = .ok (.aaload, 1) := by decide +kernel
theorem dX0_swap_34 : decode cX0_swap 34 = .ok (.iload_n 3, 1) := by decide +kernel
theorem dX0_swap_35 : decode cX0_swap 35 = .ok (.aload_n 0, 1) := by decide +kernel
theorem dX0_swap_36 : decode cX0_swap 36 = .ok (.getfield 11, 3) := by decide +kernel
theorem dX0_swap_39 : decode cX0_swap 39 = .ok (.iload_n 2, 1) := by decide +kernel
theorem dX0_swap_40 : decode cX0_swap 40 = .ok (.aaload, 1) := by decide +kernel
theorem dX0_swap_41 : decode cX0_swap 41 = .ok (.iload_n 3, 1) := by decide +kernel
theorem dX0_swap_42 : decode cX0_swap 42 = .ok (.laload, 1) := by decide +kernel
theorem dX0_swap_43 : decode cX0_swap 43 = .ok (.lastore, 1) := by decide +kernel
theorem dX0_swap_44 : decode cX0_swap 44 = .ok (.aload_n 0, 1) := by decide +kernel
theorem dX0_swap_45 : decode cX0_swap 45 = .ok (.getfield 11, 3) := by decide +kernel
theorem dX0_swap_48 : decode cX0_swap 48 = .ok (.iload_n 2, 1) := by decide +kernel
theorem dX0_swap_49 : decode cX0_swap 49 = .ok (.aaload, 1) := by decide +kernel
theorem dX0_swap_50 : decode cX0_swap 50 = .ok (.iload_n 3, 1) := by decide +kernel
theorem dX0_swap_51 : decode cX0_swap 51 = .ok (.lload 4, 2) := by decide +kernel
theorem dX0_swap_53 : decode cX0_swap 53 = .ok (.lastore, 1) := by decide +kernel
theorem dX0_swap_54 : decode cX0_swap 54 = .ok (.iinc 3 1, 3) := by decide +kernel
theorem dX0_swap_57 : decode cX0_swap 57 = .ok (.goto (-55), 3) := by decide +kernel
theorem dX0_swap_60 : decode cX0_swap 60 = .ok (.return_, 1) := by decide +kernel
set_option maxRecDepth 20000 in
theorem ggX0_clearColumn_X7_quotient : GoodIn wsX0_clearColumn wsX7_quotient := goodIn_r _ [8] (by decide +kernel) (by decide +kernel)
set_option maxRecDepth 20000 in
theorem gX0_clearColumn_X7_quotient_n99 : GoodIn wsX0_clearColumn (wsX7_quotient) := ggX0_clearColumn_X7_quotient
theorem dX0_clearColumn_0 : decode cX0_clearColumn 0 = .ok (.aload_n 0, 1) := by decide +kernel
theorem dX0_clearColumn_1 : decode cX0_clearColumn 1 = .ok (.getfield 11, 3) := by decide +kernel
theorem dX0_clearColumn_4 : decode cX0_clearColumn 4 = .ok (.iload_n 2, 1) := by decide +kernel
theorem dX0_clearColumn_5 : decode cX0_clearColumn 5 = .ok (.aaload, 1) := by decide +kernel
theorem dX0_clearColumn_6 : decode cX0_clearColumn 6 = .ok (.iload_n 1, 1) := by decide +kernel
theorem dX0_clearColumn_7 : decode cX0_clearColumn 7 = .ok (.laload, 1) := by decide +kernel
theorem dX0_clearColumn_8 : decode cX0_clearColumn 8 = .ok (.lstore_n 3, 1) := by decide +kernel
theorem dX0_clearColumn_9 : decode cX0_clearColumn 9 = .ok (.iconst 0, 1) := by decide +kernel
theorem dX0_clearColumn_10 : decode cX0_clearColumn 10 = .ok (.istore 5, 2) := by decide +kernel
theorem dX0_clearColumn_12 : decode cX0_clearColumn 12 = .ok (.iload 5, 2) := by decide +kernel
theorem dX0_clearColumn_14 : decode cX0_clearColumn 14 = .ok (.aload_n 0, 1) := by decide +kernel
theorem dX0_clearColumn_15 : decode cX0_clearColumn 15 = .ok (.getfield 30, 3) := by decide +kernel
theorem dX0_clearColumn_18 : decode cX0_clearColumn 18 = .ok (.if_icmp .ge 101, 3) := by decide +kernel
theorem dX0_clearColumn_21 : decode cX0_clearColumn 21 = .ok (.iload 5, 2) := by decide +kernel
theorem dX0_clearColumn_23 : decode cX0_clearColumn 23 = .ok (.iload_n 2, 1) := by decide +kernel
theorem dX0_clearColumn_24 : decode cX0_clearColumn 24 = .ok (.if_icmp .ne 6, 3) := by decide +kernel
theorem dX0_clearColumn_27 : decode cX0_clearColumn 27 = .ok (.goto 86, 3) := by decide +kernel
theorem dX0_clearColumn_30 : decode cX0_clearColumn 30 = .ok (.aload_n 0, 1) := by decide +kernel
theorem dX0_clearColumn_31 : decode cX0_clearColumn 31 = .ok (.getfield 11, 3) := by decide +kernel
theorem dX0_clearColumn_34 : decode cX0_clearColumn 34 = .ok (.iload 5, 2) := by decide +kernel
theorem dX0_clearColumn_36 : decode cX0_clearColumn 36 = .ok (.aaload, 1) := by decide +kernel
theorem dX0_clearColumn_37 : decode cX0_clearColumn 37 = .ok (.iload_n 1, 1) := by decide +kernel
theorem dX0_clearColumn_38 : decode cX0_clearColumn 38 = .ok (.laload, 1) := by decide +kernel
theorem dX0_clearColumn_39 : decode cX0_clearColumn 39 = .ok (.lstore 6, 2) := by decide +kernel
theorem dX0_clearColumn_41 : decode cX0_clearColumn 41 = .ok (.iconst 0, 1) := by decide +kernel
theorem dX0_clearColumn_42 : decode cX0_clearColumn 42 = .ok (.istore 8, 2) := by decide +kernel
theorem dX0_clearColumn_44 : decode cX0_clearColumn 44 = .ok (.iload 8, 2) := by decide +kernel
theorem dX0_clearColumn_46 : decode cX0_clearColumn 46 = .ok (.aload_n 0, 1) := by decide +kernel
theorem dX0_clearColumn_47 : decode cX0_clearColumn 47 = .ok (.getfield 23, 3) := by decide +kernel
theorem dX0_clearColumn_50 : decode cX0_clearColumn 50 = .ok (.getfield 54, 3) := by decide +kernel
theorem dX0_clearColumn_53 : decode cX0_clearColumn 53 = .ok (.aload_n 0, 1) := by decide +kernel
theorem dX0_clearColumn_54 : decode cX0_clearColumn 54 = .ok (.getfield 30, 3) := by decide +kernel
theorem dX0_clearColumn_57 : decode cX0_clearColumn 57 = .ok (.iadd, 1) := by decide +kernel
theorem dX0_clearColumn_58 : decode cX0_clearColumn 58 = .ok (.if_icmp .ge 55, 3) := by decide +kernel
theorem dX0_clearColumn_61 : decode cX0_clearColumn 61 = .ok (.lload_n 3, 1) := by decide +kernel
theorem dX0_clearColumn_62 : decode cX0_clearColumn 62 = .ok (.aload_n 0, 1) := by decide +kernel
theorem dX0_clearColumn_63 : decode cX0_clearColumn 63 = .ok (.getfield 11, 3) := by decide +kernel
theorem dX0_clearColumn_66 : decode cX0_clearColumn 66 = .ok (.iload 5, 2) := by decide +kernel
theorem dX0_clearColumn_68 : decode cX0_clearColumn 68 = .ok (.aaload, 1) := by decide +kernel
theorem dX0_clearColumn_69 : decode cX0_clearColumn 69 = .ok (.iload 8, 2) := by decide +kernel
theorem dX0_clearColumn_71 : decode cX0_clearColumn 71 = .ok (.laload, 1) := by decide +kernel
theorem dX0_clearColumn_72 : decode cX0_clearColumn 72 = .ok (.lmul, 1) := by decide +kernel
theorem dX0_clearColumn_73 : decode cX0_clearColumn 73 = .ok (.lload 6, 2) := by decide +kernel
theorem dX0_clearColumn_75 : decode cX0_clearColumn 75 = .ok (.aload_n 0, 1) := by decide +kernel
theorem dX0_clearColumn_76 : decode cX0_clearColumn 76 = .ok (.getfield 11, 3) := by decide +kernel
theorem dX0_clearColumn_79 : decode cX0_clearColumn 79 = .ok (.iload_n 2, 1) := by decide +kernel
theorem dX0_clearColumn_80 : decode cX0_clearColumn 80 = .ok (.aaload, 1) := by decide +kernel
theorem dX0_clearColumn_81 : decode cX0_clearColumn 81 = .ok (.iload 8, 2) := by decide +kernel
theorem dX0_clearColumn_83 : decode cX0_clearColumn 83 = .ok (.laload, 1) := by decide +kernel
theorem dX0_clearColumn_84 : decode cX0_clearColumn 84 = .ok (.lmul, 1) := by decide +kernel
theorem dX0_clearColumn_85 : decode cX0_clearColumn 85 = .ok (.lsub, 1) := by decide +kernel
theorem dX0_clearColumn_86 : decode cX0_clearColumn 86 = .ok (.lstore 9, 2) := by decide +kernel
theorem dX0_clearColumn_88 : decode cX0_clearColumn 88 = .ok (.aload_n 0, 1) := by decide +kernel
theorem dX0_clearColumn_89 : decode cX0_clearColumn 89 = .ok (.getfield 11, 3) := by decide +kernel
theorem dX0_clearColumn_92 : decode cX0_clearColumn 92 = .ok (.iload 5, 2) := by decide +kernel
theorem dX0_clearColumn_94 : decode cX0_clearColumn 94 = .ok (.aaload, 1) := by decide +kernel
theorem dX0_clearColumn_95 : decode cX0_clearColumn 95 = .ok (.iload 8, 2) := by decide +kernel
theorem dX0_clearColumn_97 : decode cX0_clearColumn 97 = .ok (.lload 9, 2) := by decide +kernel
theorem dX0_clearColumn_99 : decode cX0_clearColumn 99 = .ok (.aload_n 0, 1) := by decide +kernel
theorem dX0_clearColumn_100 : decode cX0_clearColumn 100 = .ok (.getfield 47, 3) := by decide +kernel
theorem dX0_clearColumn_103 : decode cX0_clearColumn 103 = .ok (.invokestatic 99, 3) := by decide +kernel
theorem dX0_clearColumn_106 : decode cX0_clearColumn 106 = .ok (.lastore, 1) := by decide +kernel
theorem dX0_clearColumn_107 : decode cX0_clearColumn 107 = .ok (.iinc 8 1, 3) := by decide +kernel
theorem dX0_clearColumn_110 : decode cX0_clearColumn 110 = .ok (.goto (-66), 3) := by decide +kernel
theorem dX0_clearColumn_113 : decode cX0_clearColumn 113 = .ok (.iinc 5 1, 3) := by decide +kernel
theorem dX0_clearColumn_116 : decode cX0_clearColumn 116 = .ok (.goto (-104), 3) := by decide +kernel
theorem dX0_clearColumn_119 : decode cX0_clearColumn 119 = .ok (.aload_n 0, 1) := by decide +kernel
theorem dX0_clearColumn_120 : decode cX0_clearColumn 120 = .ok (.lload_n 3, 1) := by decide +kernel
theorem dX0_clearColumn_121 : decode cX0_clearColumn 121 = .ok (.putfield 47, 3) := by decide +kernel
theorem dX0_clearColumn_124 : decode cX0_clearColumn 124 = .ok (.return_, 1) := by decide +kernel
theorem dX1_init_0 : decode cX1_init 0 = .ok (.aload_n 0, 1) := by decide +kernel
theorem dX1_init_1 : decode cX1_init 1 = .ok (.invokespecial 3, 3) := by decide +kernel
theorem dX1_init_4 : decode cX1_init 4 = .ok (.aload_n 0, 1) := by decide +kernel
theorem dX1_init_5 : decode cX1_init 5 = .ok (.iconst 3, 1) := by decide +kernel
theorem dX1_init_6 : decode cX1_init 6 = .ok (.newarray .int, 2) := by decide +kernel
theorem dX1_init_8 : decode cX1_init 8 = .ok (.putfield 9, 3) := by decide +kernel
theorem dX1_init_11 : decode cX1_init 11 = .ok (.aload_n 0, 1) := by decide +kernel
theorem dX1_init_12 : decode cX1_init 12 = .ok (.iconst 3, 1) := by decide +kernel
theorem dX1_init_13 : decode cX1_init 13 = .ok (.iconst 4, 1) := by decide +kernel
theorem dX1_init_14 : decode cX1_init 14 = .ok (.multianewarray 15 2, 4) := by decide +kernel
theorem dX1_init_18 : decode cX1_init 18 = .ok (.putfield 17, 3) := by decide +kernel
theorem dX1_init_21 : decode cX1_init 21 = .ok (.aload_n 0, 1) := by decide +kernel
theorem dX1_init_22 : decode cX1_init 22 = .ok (.aload_n 1, 1) := by decide +kernel
theorem dX1_init_23 : decode cX1_init 23 = .ok (.putfield 20, 3) := by decide +kernel
theorem dX1_init_26 : decode cX1_init 26 = .ok (.return_, 1) := by decide +kernel
theorem dX2_init_0 : decode cX2_init 0 = .ok (.aload_n 0, 1) := by decide +kernel
theorem dX2_init_1 : decode cX2_init 1 = .ok (.invokespecial 3, 3) := by decide +kernel
theorem dX2_init_4 : decode cX2_init 4 = .ok (.return_, 1) := by decide +kernel
set_option maxRecDepth 20000 in
theorem ggX2_reduce_X2_greatestDivisor : GoodIn wsX2_reduce wsX2_greatestDivisor := goodIn_r _ [10] (by decide +kernel) (by decide +kernel)
set_option maxRecDepth 20000 in
theorem gX2_reduce_X2_greatestDivisor : GoodIn wsX2_reduce (va_wsS RX2 15 yX2_greatestDivisor wsX2_greatestDivisor) := goodIn_app (goodIn_of _ (by decide +kernel)) ggX2_reduce_X2_greatestDivisor
set_option maxRecDepth 20000 in
theorem ggX2_reduce_X7_quotient : GoodIn wsX2_reduce wsX7_quotient := goodIn_r _ [13] (by decide +kernel) (by decide +kernel)
set_option maxRecDepth 20000 in
theorem gX2_reduce_X7_quotient_n21 : GoodIn wsX2_reduce (wsX7_quotient) := ggX2_reduce_X7_quotient
theorem dX2_reduce_0 : decode cX2_reduce 0 = .ok (.lload_n 1, 1) := by decide +kernel
theorem dX2_reduce_1 : decode cX2_reduce 1 = .ok (.invokestatic 9, 3) := by decide +kernel
theorem dX2_reduce_4 : decode cX2_reduce 4 = .ok (.lload_n 3, 1) := by decide +kernel
theorem dX2_reduce_5 : decode cX2_reduce 5 = .ok (.invokestatic 9, 3) := by decide +kernel
theorem dX2_reduce_8 : decode cX2_reduce 8 = .ok (.invokestatic 15, 3) := by decide +kernel
theorem dX2_reduce_11 : decode cX2_reduce 11 = .ok (.lstore 5, 2) := by decide +kernel
theorem dX2_reduce_13 : decode cX2_reduce 13 = .ok (.lload_n 3, 1) := by decide +kernel
theorem dX2_reduce_14 : decode cX2_reduce 14 = .ok (.lconst 0, 1) := by decide +kernel
theorem dX2_reduce_15 : decode cX2_reduce 15 = .ok (.lcmp, 1) := by decide +kernel
theorem dX2_reduce_16 : decode cX2_reduce 16 = .ok (.ifCond .ge 9, 3) := by decide +kernel
theorem dX2_reduce_19 : decode cX2_reduce 19 = .ok (.lload 5, 2) := by decide +kernel
theorem dX2_reduce_21 : decode cX2_reduce 21 = .ok (.lneg, 1) := by decide +kernel
theorem dX2_reduce_22 : decode cX2_reduce 22 = .ok (.goto 5, 3) := by decide +kernel
theorem dX2_reduce_25 : decode cX2_reduce 25 = .ok (.lload 5, 2) := by decide +kernel
theorem dX2_reduce_27 : decode cX2_reduce 27 = .ok (.lstore 7, 2) := by decide +kernel
theorem dX2_reduce_29 : decode cX2_reduce 29 = .ok (.aload_n 0, 1) := by decide +kernel
theorem dX2_reduce_30 : decode cX2_reduce 30 = .ok (.lload_n 1, 1) := by decide +kernel
theorem dX2_reduce_31 : decode cX2_reduce 31 = .ok (.lload 7, 2) := by decide +kernel
theorem dX2_reduce_33 : decode cX2_reduce 33 = .ok (.invokestatic 21, 3) := by decide +kernel
theorem dX2_reduce_36 : decode cX2_reduce 36 = .ok (.putfield 24, 3) := by decide +kernel
theorem dX2_reduce_39 : decode cX2_reduce 39 = .ok (.aload_n 0, 1) := by decide +kernel
theorem dX2_reduce_40 : decode cX2_reduce 40 = .ok (.lload_n 3, 1) := by decide +kernel
theorem dX2_reduce_41 : decode cX2_reduce 41 = .ok (.lload 7, 2) := by decide +kernel
theorem dX2_reduce_43 : decode cX2_reduce 43 = .ok (.invokestatic 21, 3) := by decide +kernel
theorem dX2_reduce_46 : decode cX2_reduce 46 = .ok (.putfield 28, 3) := by decide +kernel
theorem dX2_reduce_49 : decode cX2_reduce 49 = .ok (.return_, 1) := by decide +kernel
theorem dX2_greatestDivisor_0 : decode cX2_greatestDivisor 0 = .ok (.lload_n 0, 1) := by decide +kernel
theorem dX2_greatestDivisor_1 : decode cX2_greatestDivisor 1 = .ok (.lstore 4, 2) := by decide +kernel
theorem dX2_greatestDivisor_3 : decode cX2_greatestDivisor 3 = .ok (.lload_n 2, 1) := by decide +kernel
theorem dX2_greatestDivisor_4 : decode cX2_greatestDivisor 4 = .ok (.lstore 6, 2) := by decide +kernel
theorem dX2_greatestDivisor_6 : decode cX2_greatestDivisor 6 = .ok (.iconst 0, 1) := by decide +kernel
theorem dX2_greatestDivisor_7 : decode cX2_greatestDivisor 7 = .ok (.istore 8, 2) := by decide +kernel
theorem dX2_greatestDivisor_9 : decode cX2_greatestDivisor 9 = .ok (.iload 8, 2) := by decide +kernel
theorem dX2_greatestDivisor_11 : decode cX2_greatestDivisor 11 = .ok (.sipush 200, 3) := by decide +kernel
theorem dX2_greatestDivisor_14 : decode cX2_greatestDivisor 14 = .ok (.if_icmp .ge 31, 3) := by decide +kernel
theorem dX2_greatestDivisor_17 : decode cX2_greatestDivisor 17 = .ok (.lload 6, 2) := by decide +kernel
theorem dX2_greatestDivisor_19 : decode cX2_greatestDivisor 19 = .ok (.lconst 0, 1) := by decide +kernel
theorem dX2_greatestDivisor_20 : decode cX2_greatestDivisor 20 = .ok (.lcmp, 1) := by decide +kernel
theorem dX2_greatestDivisor_21 : decode cX2_greatestDivisor 21 = .ok (.ifCond .eq 24, 3) := by decide +kernel
theorem dX2_greatestDivisor_24 : decode cX2_greatestDivisor 24 = .ok (.lload 4, 2) := by decide +kernel
theorem dX2_greatestDivisor_26 : decode cX2_greatestDivisor 26 = .ok (.lload 6, 2) := by decide +kernel
theorem dX2_greatestDivisor_28 : decode cX2_greatestDivisor 28 = .ok (.lrem, 1) := by decide +kernel
theorem dX2_greatestDivisor_29 : decode cX2_greatestDivisor 29 = .ok (.lstore 9, 2) := by decide +kernel
theorem dX2_greatestDivisor_31 : decode cX2_greatestDivisor 31 = .ok (.lload 6, 2) := by decide +kernel
theorem dX2_greatestDivisor_33 : decode cX2_greatestDivisor 33 = .ok (.lstore 4, 2) := by decide +kernel
theorem dX2_greatestDivisor_35 : decode cX2_greatestDivisor 35 = .ok (.lload 9, 2) := by decide +kernel
theorem dX2_greatestDivisor_37 : decode cX2_greatestDivisor 37 = .ok (.lstore 6, 2) := by decide +kernel
theorem dX2_greatestDivisor_39 : decode cX2_greatestDivisor 39 = .ok (.iinc 8 1, 3) := by decide +kernel
theorem dX2_greatestDivisor_42 : decode cX2_greatestDivisor 42 = .ok (.goto (-33), 3) := by decide +kernel
theorem dX2_greatestDivisor_45 : decode cX2_greatestDivisor 45 = .ok (.lload 4, 2) := by decide +kernel
theorem dX2_greatestDivisor_47 : decode cX2_greatestDivisor 47 = .ok (.lreturn, 1) := by decide +kernel
theorem dX3_init_0 : decode cX3_init 0 = .ok (.aload_n 0, 1) := by decide +kernel
theorem dX3_init_1 : decode cX3_init 1 = .ok (.invokespecial 3, 3) := by decide +kernel
theorem dX3_init_4 : decode cX3_init 4 = .ok (.aload_n 0, 1) := by decide +kernel
theorem dX3_init_5 : decode cX3_init 5 = .ok (.bipush 12, 2) := by decide +kernel
theorem dX3_init_7 : decode cX3_init 7 = .ok (.newarray .int, 2) := by decide +kernel
theorem dX3_init_9 : decode cX3_init 9 = .ok (.putfield 9, 3) := by decide +kernel
theorem dX3_init_12 : decode cX3_init 12 = .ok (.aload_n 0, 1) := by decide +kernel
theorem dX3_init_13 : decode cX3_init 13 = .ok (.bipush 12, 2) := by decide +kernel
theorem dX3_init_15 : decode cX3_init 15 = .ok (.newarray .int, 2) := by decide +kernel
theorem dX3_init_17 : decode cX3_init 17 = .ok (.putfield 15, 3) := by decide +kernel
theorem dX3_init_20 : decode cX3_init 20 = .ok (.aload_n 0, 1) := by decide +kernel
theorem dX3_init_21 : decode cX3_init 21 = .ok (.bipush 12, 2) := by decide +kernel
theorem dX3_init_23 : decode cX3_init 23 = .ok (.newarray .boolean, 2) := by decide +kernel
theorem dX3_init_25 : decode cX3_init 25 = .ok (.putfield 18, 3) := by decide +kernel
theorem dX3_init_28 : decode cX3_init 28 = .ok (.aload_n 0, 1) := by decide +kernel
theorem dX3_init_29 : decode cX3_init 29 = .ok (.bipush 11, 2) := by decide +kernel
theorem dX3_init_31 : decode cX3_init 31 = .ok (.newarray .int, 2) := by decide +kernel
theorem dX3_init_33 : decode cX3_init 33 = .ok (.putfield 22, 3) := by decide +kernel
theorem dX3_init_36 : decode cX3_init 36 = .ok (.aload_n 0, 1) := by decide +kernel
theorem dX3_init_37 : decode cX3_init 37 = .ok (.bipush 11, 2) := by decide +kernel
theorem dX3_init_39 : decode cX3_init 39 = .ok (.newarray .int, 2) := by decide +kernel
theorem dX3_init_41 : decode cX3_init 41 = .ok (.putfield 25, 3) := by decide +kernel
theorem dX3_init_44 : decode cX3_init 44 = .ok (.aload_n 0, 1) := by decide +kernel
theorem dX3_init_45 : decode cX3_init 45 = .ok (.bipush 11, 2) := by decide +kernel
theorem dX3_init_47 : decode cX3_init 47 = .ok (.newarray .int, 2) := by decide +kernel
theorem dX3_init_49 : decode cX3_init 49 = .ok (.putfield 28, 3) := by decide +kernel
theorem dX3_init_52 : decode cX3_init 52 = .ok (.aload_n 0, 1) := by decide +kernel
theorem dX3_init_53 : decode cX3_init 53 = .ok (.bipush 11, 2) := by decide +kernel
theorem dX3_init_55 : decode cX3_init 55 = .ok (.newarray .int, 2) := by decide +kernel
theorem dX3_init_57 : decode cX3_init 57 = .ok (.putfield 31, 3) := by decide +kernel
theorem dX3_init_60 : decode cX3_init 60 = .ok (.return_, 1) := by decide +kernel
theorem dX3_isPin_0 : decode cX3_isPin 0 = .ok (.iload_n 1, 1) := by decide +kernel
theorem dX3_isPin_1 : decode cX3_isPin 1 = .ok (.ifCond .lt 15, 3) := by decide +kernel
theorem dX3_isPin_4 : decode cX3_isPin 4 = .ok (.iload_n 1, 1) := by decide +kernel
theorem dX3_isPin_5 : decode cX3_isPin 5 = .ok (.aload_n 0, 1) := by decide +kernel
theorem dX3_isPin_6 : decode cX3_isPin 6 = .ok (.getfield 34, 3) := by decide +kernel
theorem dX3_isPin_9 : decode cX3_isPin 9 = .ok (.if_icmp .ge 7, 3) := by decide +kernel
theorem dX3_isPin_12 : decode cX3_isPin 12 = .ok (.iconst 1, 1) := by decide +kernel
theorem dX3_isPin_13 : decode cX3_isPin 13 = .ok (.goto 4, 3) := by decide +kernel
theorem dX3_isPin_16 : decode cX3_isPin 16 = .ok (.iconst 0, 1) := by decide +kernel
theorem dX3_isPin_17 : decode cX3_isPin 17 = .ok (.ireturn, 1) := by decide +kernel
theorem dX3_isBar_0 : decode cX3_isBar 0 = .ok (.iload_n 1, 1) := by decide +kernel
theorem dX3_isBar_1 : decode cX3_isBar 1 = .ok (.ifCond .lt 15, 3) := by decide +kernel
theorem dX3_isBar_4 : decode cX3_isBar 4 = .ok (.iload_n 1, 1) := by decide +kernel
theorem dX3_isBar_5 : decode cX3_isBar 5 = .ok (.aload_n 0, 1) := by decide +kernel
theorem dX3_isBar_6 : decode cX3_isBar 6 = .ok (.getfield 38, 3) := by decide +kernel
theorem dX3_isBar_9 : decode cX3_isBar 9 = .ok (.if_icmp .ge 7, 3) := by decide +kernel
theorem dX3_isBar_12 : decode cX3_isBar 12 = .ok (.iconst 1, 1) := by decide +kernel
theorem dX3_isBar_13 : decode cX3_isBar 13 = .ok (.goto 4, 3) := by decide +kernel
theorem dX3_isBar_16 : decode cX3_isBar 16 = .ok (.iconst 0, 1) := by decide +kernel
theorem dX3_isBar_17 : decode cX3_isBar 17 = .ok (.ireturn, 1) := by decide +kernel
set_option maxRecDepth 20000 in
theorem ggX3_isOn_X3_isBar : GoodIn wsX3_isOn wsX3_isBar := goodIn_r _ [6, 7, 11, 12, 13, 14, 15, 16, 17, 18, 19, 20] (by decide +kernel) (by decide +kernel)
set_option maxRecDepth 20000 in
theorem gX3_isOn_X3_isBar : GoodIn wsX3_isOn (wsV RX3 41 RX3 yX3_isBar wsX3_isBar) := goodIn_app (goodIn_of _ (by decide +kernel)) ggX3_isOn_X3_isBar
set_option maxRecDepth 20000 in
theorem ggX3_isOn_X7_has : GoodIn wsX3_isOn wsX7_has := goodIn_r _ [10] (by decide +kernel) (by decide +kernel)
set_option maxRecDepth 20000 in
theorem gX3_isOn_X7_has_n48 : GoodIn wsX3_isOn (wsX7_has) := ggX3_isOn_X7_has
theorem dX3_isOn_0 : decode cX3_isOn 0 = .ok (.aload_n 0, 1) := by decide +kernel
theorem dX3_isOn_1 : decode cX3_isOn 1 = .ok (.iload_n 1, 1) := by decide +kernel
theorem dX3_isOn_2 : decode cX3_isOn 2 = .ok (.invokevirtual 41, 3) := by decide +kernel
theorem dX3_isOn_5 : decode cX3_isOn 5 = .ok (.ifCond .eq 18, 3) := by decide +kernel
theorem dX3_isOn_8 : decode cX3_isOn 8 = .ok (.aload_n 0, 1) := by decide +kernel
theorem dX3_isOn_9 : decode cX3_isOn 9 = .ok (.getfield 45, 3) := by decide +kernel
theorem dX3_isOn_12 : decode cX3_isOn 12 = .ok (.iload_n 1, 1) := by decide +kernel
theorem dX3_isOn_13 : decode cX3_isOn 13 = .ok (.invokestatic 48, 3) := by decide +kernel
theorem dX3_isOn_16 : decode cX3_isOn 16 = .ok (.ifCond .eq 7, 3) := by decide +kernel
theorem dX3_isOn_19 : decode cX3_isOn 19 = .ok (.iconst 1, 1) := by decide +kernel
theorem dX3_isOn_20 : decode cX3_isOn 20 = .ok (.goto 4, 3) := by decide +kernel
theorem dX3_isOn_23 : decode cX3_isOn 23 = .ok (.iconst 0, 1) := by decide +kernel
theorem dX3_isOn_24 : decode cX3_isOn 24 = .ok (.ireturn, 1) := by decide +kernel
theorem dX3_hasPinAt_0 : decode cX3_hasPinAt 0 = .ok (.iconst 0, 1) := by decide +kernel
theorem dX3_hasPinAt_1 : decode cX3_hasPinAt 1 = .ok (.istore_n 3, 1) := by decide +kernel
theorem dX3_hasPinAt_2 : decode cX3_hasPinAt 2 = .ok (.iload_n 3, 1) := by decide +kernel
theorem dX3_hasPinAt_3 : decode cX3_hasPinAt 3 = .ok (.aload_n 0, 1) := by decide +kernel
theorem dX3_hasPinAt_4 : decode cX3_hasPinAt 4 = .ok (.getfield 34, 3) := by decide +kernel
theorem dX3_hasPinAt_7 : decode cX3_hasPinAt 7 = .ok (.if_icmp .ge 37, 3) := by decide +kernel
theorem dX3_hasPinAt_10 : decode cX3_hasPinAt 10 = .ok (.aload_n 0, 1) := by decide +kernel
theorem dX3_hasPinAt_11 : decode cX3_hasPinAt 11 = .ok (.getfield 9, 3) := by decide +kernel
theorem dX3_hasPinAt_14 : decode cX3_hasPinAt 14 = .ok (.iconst 2, 1) := by decide +kernel
theorem dX3_hasPinAt_15 : decode cX3_hasPinAt 15 = .ok (.iload_n 3, 1) := by decide +kernel
theorem dX3_hasPinAt_16 : decode cX3_hasPinAt 16 = .ok (.imul, 1) := by decide +kernel
theorem dX3_hasPinAt_17 : decode cX3_hasPinAt 17 = .ok (.iaload, 1) := by decide +kernel
theorem dX3_hasPinAt_18 : decode cX3_hasPinAt 18 = .ok (.iload_n 1, 1) := by decide +kernel
theorem dX3_hasPinAt_19 : decode cX3_hasPinAt 19 = .ok (.if_icmp .ne 19, 3) := by decide +kernel
theorem dX3_hasPinAt_22 : decode cX3_hasPinAt 22 = .ok (.aload_n 0, 1) := by decide +kernel
theorem dX3_hasPinAt_23 : decode cX3_hasPinAt 23 = .ok (.getfield 9, 3) := by decide +kernel
theorem dX3_hasPinAt_26 : decode cX3_hasPinAt 26 = .ok (.iconst 2, 1) := by decide +kernel
theorem dX3_hasPinAt_27 : decode cX3_hasPinAt 27 = .ok (.iload_n 3, 1) := by decide +kernel
theorem dX3_hasPinAt_28 : decode cX3_hasPinAt 28 = .ok (.imul, 1) := by decide +kernel
theorem dX3_hasPinAt_29 : decode cX3_hasPinAt 29 = .ok (.iconst 1, 1) := by decide +kernel
theorem dX3_hasPinAt_30 : decode cX3_hasPinAt 30 = .ok (.iadd, 1) := by decide +kernel
theorem dX3_hasPinAt_31 : decode cX3_hasPinAt 31 = .ok (.iaload, 1) := by decide +kernel
theorem dX3_hasPinAt_32 : decode cX3_hasPinAt 32 = .ok (.iload_n 2, 1) := by decide +kernel
theorem dX3_hasPinAt_33 : decode cX3_hasPinAt 33 = .ok (.if_icmp .ne 5, 3) := by decide +kernel
theorem dX3_hasPinAt_36 : decode cX3_hasPinAt 36 = .ok (.iconst 1, 1) := by decide +kernel
theorem dX3_hasPinAt_37 : decode cX3_hasPinAt 37 = .ok (.ireturn, 1) := by decide +kernel
theorem dX3_hasPinAt_38 : decode cX3_hasPinAt 38 = .ok (.iinc 3 1, 3) := by decide +kernel
theorem dX3_hasPinAt_41 : decode cX3_hasPinAt 41 = .ok (.goto (-39), 3) := by decide +kernel
theorem dX3_hasPinAt_44 : decode cX3_hasPinAt 44 = .ok (.iconst 0, 1) := by decide +kernel
theorem dX3_hasPinAt_45 : decode cX3_hasPinAt 45 = .ok (.ireturn, 1) := by decide +kernel
theorem dX3_hasBar_0 : decode cX3_hasBar 0 = .ok (.iconst 0, 1) := by decide +kernel
theorem dX3_hasBar_1 : decode cX3_hasBar 1 = .ok (.istore_n 3, 1) := by decide +kernel
theorem dX3_hasBar_2 : decode cX3_hasBar 2 = .ok (.iload_n 3, 1) := by decide +kernel
theorem dX3_hasBar_3 : decode cX3_hasBar 3 = .ok (.aload_n 0, 1) := by decide +kernel
theorem dX3_hasBar_4 : decode cX3_hasBar 4 = .ok (.getfield 38, 3) := by decide +kernel
theorem dX3_hasBar_7 : decode cX3_hasBar 7 = .ok (.if_icmp .ge 51, 3) := by decide +kernel
theorem dX3_hasBar_10 : decode cX3_hasBar 10 = .ok (.aload_n 0, 1) := by decide +kernel
theorem dX3_hasBar_11 : decode cX3_hasBar 11 = .ok (.getfield 22, 3) := by decide +kernel
theorem dX3_hasBar_14 : decode cX3_hasBar 14 = .ok (.iload_n 3, 1) := by decide +kernel
theorem dX3_hasBar_15 : decode cX3_hasBar 15 = .ok (.iaload, 1) := by decide +kernel
theorem dX3_hasBar_16 : decode cX3_hasBar 16 = .ok (.iload_n 1, 1) := by decide +kernel
theorem dX3_hasBar_17 : decode cX3_hasBar 17 = .ok (.if_icmp .ne 13, 3) := by decide +kernel
theorem dX3_hasBar_20 : decode cX3_hasBar 20 = .ok (.aload_n 0, 1) := by decide +kernel
theorem dX3_hasBar_21 : decode cX3_hasBar 21 = .ok (.getfield 25, 3) := by decide +kernel
theorem dX3_hasBar_24 : decode cX3_hasBar 24 = .ok (.iload_n 3, 1) := by decide +kernel
theorem dX3_hasBar_25 : decode cX3_hasBar 25 = .ok (.iaload, 1) := by decide +kernel
theorem dX3_hasBar_26 : decode cX3_hasBar 26 = .ok (.iload_n 2, 1) := by decide +kernel
theorem dX3_hasBar_27 : decode cX3_hasBar 27 = .ok (.if_icmp .eq 23, 3) := by decide +kernel
theorem dX3_hasBar_30 : decode cX3_hasBar 30 = .ok (.aload_n 0, 1) := by decide +kernel
theorem dX3_hasBar_31 : decode cX3_hasBar 31 = .ok (.getfield 22, 3) := by decide +kernel
theorem dX3_hasBar_34 : decode cX3_hasBar 34 = .ok (.iload_n 3, 1) := by decide +kernel
theorem dX3_hasBar_35 : decode cX3_hasBar 35 = .ok (.iaload, 1) := by decide +kernel
theorem dX3_hasBar_36 : decode cX3_hasBar 36 = .ok (.iload_n 2, 1) := by decide +kernel
theorem dX3_hasBar_37 : decode cX3_hasBar 37 = .ok (.if_icmp .ne 15, 3) := by decide +kernel
theorem dX3_hasBar_40 : decode cX3_hasBar 40 = .ok (.aload_n 0, 1) := by decide +kernel
theorem dX3_hasBar_41 : decode cX3_hasBar 41 = .ok (.getfield 25, 3) := by decide +kernel
theorem dX3_hasBar_44 : decode cX3_hasBar 44 = .ok (.iload_n 3, 1) := by decide +kernel
theorem dX3_hasBar_45 : decode cX3_hasBar 45 = .ok (.iaload, 1) := by decide +kernel
theorem dX3_hasBar_46 : decode cX3_hasBar 46 = .ok (.iload_n 1, 1) := by decide +kernel
theorem dX3_hasBar_47 : decode cX3_hasBar 47 = .ok (.if_icmp .ne 5, 3) := by decide +kernel
theorem dX3_hasBar_50 : decode cX3_hasBar 50 = .ok (.iconst 1, 1) := by decide +kernel
theorem dX3_hasBar_51 : decode cX3_hasBar 51 = .ok (.ireturn, 1) := by decide +kernel
theorem dX3_hasBar_52 : decode cX3_hasBar 52 = .ok (.iinc 3 1, 3) := by decide +kernel
theorem dX3_hasBar_55 : decode cX3_hasBar 55 = .ok (.goto (-53), 3) := by decide +kernel
theorem dX3_hasBar_58 : decode cX3_hasBar 58 = .ok (.iconst 0, 1) := by decide +kernel
theorem dX3_hasBar_59 : decode cX3_hasBar 59 = .ok (.ireturn, 1) := by decide +kernel
theorem dX3_put_0 : decode cX3_put 0 = .ok (.aload_n 0, 1) := by decide +kernel
theorem dX3_put_1 : decode cX3_put 1 = .ok (.getfield 9, 3) := by decide +kernel
theorem dX3_put_4 : decode cX3_put 4 = .ok (.iconst 2, 1) := by decide +kernel
theorem dX3_put_5 : decode cX3_put 5 = .ok (.iload_n 1, 1) := by decide +kernel
theorem dX3_put_6 : decode cX3_put 6 = .ok (.imul, 1) := by decide +kernel
theorem dX3_put_7 : decode cX3_put 7 = .ok (.iload_n 2, 1) := by decide +kernel
theorem dX3_put_8 : decode cX3_put 8 = .ok (.iastore, 1) := by decide +kernel
theorem dX3_put_9 : decode cX3_put 9 = .ok (.aload_n 0, 1) := by decide +kernel
theorem dX3_put_10 : decode cX3_put 10 = .ok (.getfield 9, 3) := by decide +kernel
theorem dX3_put_13 : decode cX3_put 13 = .ok (.iconst 2, 1) := by decide +kernel
theorem dX3_put_14 : decode cX3_put 14 = .ok (.iload_n 1, 1) := by decide +kernel
theorem dX3_put_15 : decode cX3_put 15 = .ok (.imul, 1) := by decide +kernel
theorem dX3_put_16 : decode cX3_put 16 = .ok (.iconst 1, 1) := by decide +kernel
theorem dX3_put_17 : decode cX3_put 17 = .ok (.iadd, 1) := by decide +kernel
theorem dX3_put_18 : decode cX3_put 18 = .ok (.iload_n 3, 1) := by decide +kernel
theorem dX3_put_19 : decode cX3_put 19 = .ok (.iastore, 1) := by decide +kernel
theorem dX3_put_20 : decode cX3_put 20 = .ok (.return_, 1) := by decide +kernel
theorem dX3_addBar_0 : decode cX3_addBar 0 = .ok (.aload_n 0, 1) := by decide +kernel
theorem dX3_addBar_1 : decode cX3_addBar 1 = .ok (.getfield 38, 3) := by decide +kernel
theorem dX3_addBar_4 : decode cX3_addBar 4 = .ok (.istore 4, 2) := by decide +kernel
theorem dX3_addBar_6 : decode cX3_addBar 6 = .ok (.aload_n 0, 1) := by decide +kernel
theorem dX3_addBar_7 : decode cX3_addBar 7 = .ok (.getfield 22, 3) := by decide +kernel
theorem dX3_addBar_10 : decode cX3_addBar 10 = .ok (.iload 4, 2) := by decide +kernel
theorem dX3_addBar_12 : decode cX3_addBar 12 = .ok (.iload_n 1, 1) := by decide +kernel
theorem dX3_addBar_13 : decode cX3_addBar 13 = .ok (.iastore, 1) := by decide +kernel
theorem dX3_addBar_14 : decode cX3_addBar 14 = .ok (.aload_n 0, 1) := by decide +kernel
theorem dX3_addBar_15 : decode cX3_addBar 15 = .ok (.getfield 25, 3) := by decide +kernel
theorem dX3_addBar_18 : decode cX3_addBar 18 = .ok (.iload 4, 2) := by decide +kernel
theorem dX3_addBar_20 : decode cX3_addBar 20 = .ok (.iload_n 2, 1) := by decide +kernel
theorem dX3_addBar_21 : decode cX3_addBar 21 = .ok (.iastore, 1) := by decide +kernel
theorem dX3_addBar_22 : decode cX3_addBar 22 = .ok (.aload_n 0, 1) := by decide +kernel
theorem dX3_addBar_23 : decode cX3_addBar 23 = .ok (.getfield 28, 3) := by decide +kernel
theorem dX3_addBar_26 : decode cX3_addBar 26 = .ok (.iload 4, 2) := by decide +kernel
theorem dX3_addBar_28 : decode cX3_addBar 28 = .ok (.iload_n 3, 1) := by decide +kernel
theorem dX3_addBar_29 : decode cX3_addBar 29 = .ok (.iastore, 1) := by decide +kernel
theorem dX3_addBar_30 : decode cX3_addBar 30 = .ok (.aload_n 0, 1) := by decide +kernel
theorem dX3_addBar_31 : decode cX3_addBar 31 = .ok (.getfield 31, 3) := by decide +kernel
theorem dX3_addBar_34 : decode cX3_addBar 34 = .ok (.iload 4, 2) := by decide +kernel
theorem dX3_addBar_36 : decode cX3_addBar 36 = .ok (.bipush 99, 2) := by decide +kernel
theorem dX3_addBar_38 : decode cX3_addBar 38 = .ok (.iastore, 1) := by decide +kernel
theorem dX3_addBar_39 : decode cX3_addBar 39 = .ok (.aload_n 0, 1) := by decide +kernel
theorem dX3_addBar_40 : decode cX3_addBar 40 = .ok (.dup, 1) := by decide +kernel
theorem dX3_addBar_41 : decode cX3_addBar 41 = .ok (.getfield 45, 3) := by decide +kernel
theorem dX3_addBar_44 : decode cX3_addBar 44 = .ok (.iconst 1, 1) := by decide +kernel
theorem dX3_addBar_45 : decode cX3_addBar 45 = .ok (.iload 4, 2) := by decide +kernel
theorem dX3_addBar_47 : decode cX3_addBar 47 = .ok (.ishl, 1) := by decide +kernel
theorem dX3_addBar_48 : decode cX3_addBar 48 = .ok (.ior, 1) := by decide +kernel
theorem dX3_addBar_49 : decode cX3_addBar 49 = .ok (.putfield 45, 3) := by decide +kernel
theorem dX3_addBar_52 : decode cX3_addBar 52 = .ok (.aload_n 0, 1) := by decide +kernel
theorem dX3_addBar_53 : decode cX3_addBar 53 = .ok (.dup, 1) := by decide +kernel
theorem dX3_addBar_54 : decode cX3_addBar 54 = .ok (.getfield 38, 3) := by decide +kernel
theorem dX3_addBar_57 : decode cX3_addBar 57 = .ok (.iconst 1, 1) := by decide +kernel
theorem dX3_addBar_58 : decode cX3_addBar 58 = .ok (.iadd, 1) := by decide +kernel
theorem dX3_addBar_59 : decode cX3_addBar 59 = .ok (.putfield 38, 3) := by decide +kernel
theorem dX3_addBar_62 : decode cX3_addBar 62 = .ok (.iload 4, 2) := by decide +kernel
theorem dX3_addBar_64 : decode cX3_addBar 64 = .ok (.ireturn, 1) := by decide +kernel
set_option maxRecDepth 20000 in
theorem ggX3_barsAt_X7_has : GoodIn wsX3_barsAt wsX7_has := goodIn_r _ [7] (by decide +kernel) (by decide +kernel)
set_option maxRecDepth 20000 in
theorem gX3_barsAt_X7_has_n48 : GoodIn wsX3_barsAt (wsX7_has) := ggX3_barsAt_X7_has
theorem dX3_barsAt_0 : decode cX3_barsAt 0 = .ok (.iconst 0, 1) := by decide +kernel
theorem dX3_barsAt_1 : decode cX3_barsAt 1 = .ok (.istore_n 2, 1) := by decide +kernel
theorem dX3_barsAt_2 : decode cX3_barsAt 2 = .ok (.iconst 0, 1) := by decide +kernel
theorem dX3_barsAt_3 : decode cX3_barsAt 3 = .ok (.istore_n 3, 1) := by decide +kernel
theorem dX3_barsAt_4 : decode cX3_barsAt 4 = .ok (.iload_n 3, 1) := by decide +kernel
theorem dX3_barsAt_5 : decode cX3_barsAt 5 = .ok (.aload_n 0, 1) := by decide +kernel
theorem dX3_barsAt_6 : decode cX3_barsAt 6 = .ok (.getfield 38, 3) := by decide +kernel
theorem dX3_barsAt_9 : decode cX3_barsAt 9 = .ok (.if_icmp .ge 46, 3) := by decide +kernel
theorem dX3_barsAt_12 : decode cX3_barsAt 12 = .ok (.aload_n 0, 1) := by decide +kernel
theorem dX3_barsAt_13 : decode cX3_barsAt 13 = .ok (.getfield 45, 3) := by decide +kernel
theorem dX3_barsAt_16 : decode cX3_barsAt 16 = .ok (.iload_n 3, 1) := by decide +kernel
theorem dX3_barsAt_17 : decode cX3_barsAt 17 = .ok (.invokestatic 48, 3) := by decide +kernel
theorem dX3_barsAt_20 : decode cX3_barsAt 20 = .ok (.ifCond .eq 29, 3) := by decide +kernel
theorem dX3_barsAt_23 : decode cX3_barsAt 23 = .ok (.aload_n 0, 1) := by decide +kernel
theorem dX3_barsAt_24 : decode cX3_barsAt 24 = .ok (.getfield 22, 3) := by decide +kernel
theorem dX3_barsAt_27 : decode cX3_barsAt 27 = .ok (.iload_n 3, 1) := by decide +kernel
theorem dX3_barsAt_28 : decode cX3_barsAt 28 = .ok (.iaload, 1) := by decide +kernel
theorem dX3_barsAt_29 : decode cX3_barsAt 29 = .ok (.iload_n 1, 1) := by decide +kernel
theorem dX3_barsAt_30 : decode cX3_barsAt 30 = .ok (.if_icmp .eq 13, 3) := by decide +kernel
theorem dX3_barsAt_33 : decode cX3_barsAt 33 = .ok (.aload_n 0, 1) := by decide +kernel
theorem dX3_barsAt_34 : decode cX3_barsAt 34 = .ok (.getfield 25, 3) := by decide +kernel
theorem dX3_barsAt_37 : decode cX3_barsAt 37 = .ok (.iload_n 3, 1) := by decide +kernel
theorem dX3_barsAt_38 : decode cX3_barsAt 38 = .ok (.iaload, 1) := by decide +kernel
theorem dX3_barsAt_39 : decode cX3_barsAt 39 = .ok (.iload_n 1, 1) := by decide +kernel
theorem dX3_barsAt_40 : decode cX3_barsAt 40 = .ok (.if_icmp .ne 9, 3) := by decide +kernel
theorem dX3_barsAt_43 : decode cX3_barsAt 43 = .ok (.iload_n 2, 1) := by decide +kernel
theorem dX3_barsAt_44 : decode cX3_barsAt 44 = .ok (.iconst 1, 1) := by decide +kernel
theorem dX3_barsAt_45 : decode cX3_barsAt 45 = .ok (.iload_n 3, 1) := by decide +kernel
theorem dX3_barsAt_46 : decode cX3_barsAt 46 = .ok (.ishl, 1) := by decide +kernel
theorem dX3_barsAt_47 : decode cX3_barsAt 47 = .ok (.ior, 1) := by decide +kernel
theorem dX3_barsAt_48 : decode cX3_barsAt 48 = .ok (.istore_n 2, 1) := by decide +kernel
theorem dX3_barsAt_49 : decode cX3_barsAt 49 = .ok (.iinc 3 1, 3) := by decide +kernel
theorem dX3_barsAt_52 : decode cX3_barsAt 52 = .ok (.goto (-48), 3) := by decide +kernel
theorem dX3_barsAt_55 : decode cX3_barsAt 55 = .ok (.iload_n 2, 1) := by decide +kernel
theorem dX3_barsAt_56 : decode cX3_barsAt 56 = .ok (.ireturn, 1) := by decide +kernel
theorem dX3_brings_0 : decode cX3_brings 0 = .ok (.iload_n 2, 1) := by decide +kernel
theorem dX3_brings_1 : decode cX3_brings 1 = .ok (.iconst 2, 1) := by decide +kernel
theorem dX3_brings_2 : decode cX3_brings 2 = .ok (.idiv, 1) := by decide +kernel
theorem dX3_brings_3 : decode cX3_brings 3 = .ok (.istore_n 3, 1) := by decide +kernel
theorem dX3_brings_4 : decode cX3_brings 4 = .ok (.iload_n 2, 1) := by decide +kernel
theorem dX3_brings_5 : decode cX3_brings 5 = .ok (.iconst 2, 1) := by decide +kernel
theorem dX3_brings_6 : decode cX3_brings 6 = .ok (.irem, 1) := by decide +kernel
theorem dX3_brings_7 : decode cX3_brings 7 = .ok (.istore 4, 2) := by decide +kernel
theorem dX3_brings_9 : decode cX3_brings 9 = .ok (.aload_n 0, 1) := by decide +kernel
theorem dX3_brings_10 : decode cX3_brings 10 = .ok (.getfield 9, 3) := by decide +kernel
theorem dX3_brings_13 : decode cX3_brings 13 = .ok (.iconst 2, 1) := by decide +kernel
theorem dX3_brings_14 : decode cX3_brings 14 = .ok (.aload_n 0, 1) := by decide +kernel
theorem dX3_brings_15 : decode cX3_brings 15 = .ok (.getfield 25, 3) := by decide +kernel
theorem dX3_brings_18 : decode cX3_brings 18 = .ok (.iload_n 1, 1) := by decide +kernel
theorem dX3_brings_19 : decode cX3_brings 19 = .ok (.iaload, 1) := by decide +kernel
theorem dX3_brings_20 : decode cX3_brings 20 = .ok (.imul, 1) := by decide +kernel
theorem dX3_brings_21 : decode cX3_brings 21 = .ok (.iload 4, 2) := by decide +kernel
theorem dX3_brings_23 : decode cX3_brings 23 = .ok (.iadd, 1) := by decide +kernel
theorem dX3_brings_24 : decode cX3_brings 24 = .ok (.iaload, 1) := by decide +kernel
theorem dX3_brings_25 : decode cX3_brings 25 = .ok (.aload_n 0, 1) := by decide +kernel
theorem dX3_brings_26 : decode cX3_brings 26 = .ok (.getfield 9, 3) := by decide +kernel
theorem dX3_brings_29 : decode cX3_brings 29 = .ok (.iconst 2, 1) := by decide +kernel
theorem dX3_brings_30 : decode cX3_brings 30 = .ok (.aload_n 0, 1) := by decide +kernel
theorem dX3_brings_31 : decode cX3_brings 31 = .ok (.getfield 22, 3) := by decide +kernel
theorem dX3_brings_34 : decode cX3_brings 34 = .ok (.iload_n 1, 1) := by decide +kernel
theorem dX3_brings_35 : decode cX3_brings 35 = .ok (.iaload, 1) := by decide +kernel
theorem dX3_brings_36 : decode cX3_brings 36 = .ok (.imul, 1) := by decide +kernel
theorem dX3_brings_37 : decode cX3_brings 37 = .ok (.iload 4, 2) := by decide +kernel
theorem dX3_brings_39 : decode cX3_brings 39 = .ok (.iadd, 1) := by decide +kernel
theorem dX3_brings_40 : decode cX3_brings 40 = .ok (.iaload, 1) := by decide +kernel
theorem dX3_brings_41 : decode cX3_brings 41 = .ok (.isub, 1) := by decide +kernel
theorem dX3_brings_42 : decode cX3_brings 42 = .ok (.istore 5, 2) := by decide +kernel
theorem dX3_brings_44 : decode cX3_brings 44 = .ok (.aload_n 0, 1) := by decide +kernel
theorem dX3_brings_45 : decode cX3_brings 45 = .ok (.getfield 22, 3) := by decide +kernel
theorem dX3_brings_48 : decode cX3_brings 48 = .ok (.iload_n 1, 1) := by decide +kernel
theorem dX3_brings_49 : decode cX3_brings 49 = .ok (.iaload, 1) := by decide +kernel
theorem dX3_brings_50 : decode cX3_brings 50 = .ok (.iload_n 3, 1) := by decide +kernel
theorem dX3_brings_51 : decode cX3_brings 51 = .ok (.if_icmp .ne 6, 3) := by decide +kernel
theorem dX3_brings_54 : decode cX3_brings 54 = .ok (.iload 5, 2) := by decide +kernel
theorem dX3_brings_56 : decode cX3_brings 56 = .ok (.ireturn, 1) := by decide +kernel
theorem dX3_brings_57 : decode cX3_brings 57 = .ok (.aload_n 0, 1) := by decide +kernel
theorem dX3_brings_58 : decode cX3_brings 58 = .ok (.getfield 25, 3) := by decide +kernel
theorem dX3_brings_61 : decode cX3_brings 61 = .ok (.iload_n 1, 1) := by decide +kernel
theorem dX3_brings_62 : decode cX3_brings 62 = .ok (.iaload, 1) := by decide +kernel
theorem dX3_brings_63 : decode cX3_brings 63 = .ok (.iload_n 3, 1) := by decide +kernel
theorem dX3_brings_64 : decode cX3_brings 64 = .ok (.if_icmp .ne 9, 3) := by decide +kernel
theorem dX3_brings_67 : decode cX3_brings 67 = .ok (.iload 5, 2) := by decide +kernel
theorem dX3_brings_69 : decode cX3_brings 69 = .ok (.ineg, 1) := by decide +kernel
theorem dX3_brings_70 : decode cX3_brings 70 = .ok (.goto 4, 3) := by decide +kernel
theorem dX3_brings_73 : decode cX3_brings 73 = .ok (.iconst 0, 1) := by decide +kernel
theorem dX3_brings_74 : decode cX3_brings 74 = .ok (.ireturn, 1) := by decide +kernel
theorem dX4_init_0 : decode cX4_init 0 = .ok (.aload_n 0, 1) := by decide +kernel
theorem dX4_init_1 : decode cX4_init 1 = .ok (.invokespecial 3, 3) := by decide +kernel
theorem dX4_init_4 : decode cX4_init 4 = .ok (.aload_n 0, 1) := by decide +kernel
theorem dX4_init_5 : decode cX4_init 5 = .ok (.bipush 6, 2) := by decide +kernel
theorem dX4_init_7 : decode cX4_init 7 = .ok (.newarray .int, 2) := by decide +kernel
theorem dX4_init_9 : decode cX4_init 9 = .ok (.putfield 9, 3) := by decide +kernel
theorem dX4_init_12 : decode cX4_init 12 = .ok (.aload_n 0, 1) := by decide +kernel
theorem dX4_init_13 : decode cX4_init 13 = .ok (.aload_n 1, 1) := by decide +kernel
theorem dX4_init_14 : decode cX4_init 14 = .ok (.putfield 15, 3) := by decide +kernel
theorem dX4_init_17 : decode cX4_init 17 = .ok (.return_, 1) := by decide +kernel
set_option maxRecDepth 20000 in
theorem ggX4_follow_X4_doNext : GoodIn wsX4_follow wsX4_doNext := goodIn_r _ [7, 8, 9, 2, 1, 10, 11, 12, 13, 14, 15, 16, 17, 18, 19, 20, 21, 22, 23, 24, 25, 6, 26, 27, 28, 29, 30, 31, 32, 33, 34, 35, 36, 37, 38, 39, 40, 41, 42, 43, 44, 45, 46, 47, 48, 49, 50, 51, 52, 53, 54, 55, 56, 57, 58, 59, 60, 61, 62] (by decide +kernel) (by decide +kernel)
set_option maxRecDepth 20000 in
theorem gX4_follow_X4_doNext : GoodIn wsX4_follow (wsV RX4 26 RX4 yX4_doNext wsX4_doNext) := goodIn_app (goodIn_of _ (by decide +kernel)) ggX4_follow_X4_doNext
theorem dX4_follow_0 : decode cX4_follow 0 = .ok (.aload_n 0, 1) := by decide +kernel
theorem dX4_follow_1 : decode cX4_follow 1 = .ok (.iconst 0, 1) := by decide +kernel
theorem dX4_follow_2 : decode cX4_follow 2 = .ok (.putfield 19, 3) := by decide +kernel
theorem dX4_follow_5 : decode cX4_follow 5 = .ok (.aload_n 0, 1) := by decide +kernel
theorem dX4_follow_6 : decode cX4_follow 6 = .ok (.iconst 0, 1) := by decide +kernel
theorem dX4_follow_7 : decode cX4_follow 7 = .ok (.putfield 23, 3) := by decide +kernel
theorem dX4_follow_10 : decode cX4_follow 10 = .ok (.iconst 1, 1) := by decide +kernel
theorem dX4_follow_11 : decode cX4_follow 11 = .ok (.istore_n 1, 1) := by decide +kernel
theorem dX4_follow_12 : decode cX4_follow 12 = .ok (.iconst 0, 1) := by decide +kernel
theorem dX4_follow_13 : decode cX4_follow 13 = .ok (.istore_n 2, 1) := by decide +kernel
theorem dX4_follow_14 : decode cX4_follow 14 = .ok (.iload_n 2, 1) := by decide +kernel
theorem dX4_follow_15 : decode cX4_follow 15 = .ok (.bipush 6, 2) := by decide +kernel
theorem dX4_follow_17 : decode cX4_follow 17 = .ok (.if_icmp .ge 18, 3) := by decide +kernel
theorem dX4_follow_20 : decode cX4_follow 20 = .ok (.iload_n 1, 1) := by decide +kernel
theorem dX4_follow_21 : decode cX4_follow 21 = .ok (.ifCond .eq 14, 3) := by decide +kernel
theorem dX4_follow_24 : decode cX4_follow 24 = .ok (.aload_n 0, 1) := by decide +kernel
theorem dX4_follow_25 : decode cX4_follow 25 = .ok (.invokevirtual 26, 3) := by decide +kernel
theorem dX4_follow_28 : decode cX4_follow 28 = .ok (.istore_n 1, 1) := by decide +kernel
theorem dX4_follow_29 : decode cX4_follow 29 = .ok (.iinc 2 1, 3) := by decide +kernel
theorem dX4_follow_32 : decode cX4_follow 32 = .ok (.goto (-18), 3) := by decide +kernel
theorem dX4_follow_35 : decode cX4_follow 35 = .ok (.return_, 1) := by decide +kernel
set_option maxRecDepth 20000 in
theorem ggX4_doNext_X3_barsAt : GoodIn wsX4_doNext wsX3_barsAt := goodIn_r _ [10, 11, 12, 13, 14, 15, 16, 17, 49, 50, 51, 52, 53, 54, 55, 56, 57, 58] (by decide +kernel) (by decide +kernel)
set_option maxRecDepth 20000 in
theorem gX4_doNext_X3_barsAt : GoodIn wsX4_doNext (wsV RX4 35 RX3 yX3_barsAt wsX3_barsAt) := goodIn_app (goodIn_of _ (by decide +kernel)) ggX4_doNext_X3_barsAt
set_option maxRecDepth 20000 in
theorem ggX4_doNext_X4_determines : GoodIn wsX4_doNext wsX4_determines := goodIn_r _ [22, 1, 23, 24, 25, 26, 27, 28, 29, 30, 31, 32, 33, 21, 34, 35, 15, 16, 17, 36, 37, 38, 9, 39, 40, 14, 13, 41, 42, 43, 44, 45, 46, 47, 48, 49, 50, 51, 52, 53, 54, 55, 56, 57, 58] (by decide +kernel) (by decide +kernel)
set_option maxRecDepth 20000 in
theorem gX4_doNext_X4_determines : GoodIn wsX4_doNext (wsV RX4 39 RX4 yX4_determines wsX4_determines) := goodIn_app (goodIn_of _ (by decide +kernel)) ggX4_doNext_X4_determines
theorem dX4_doNext_0 : decode cX4_doNext 0 = .ok (.iconst 0, 1) := by decide +kernel
theorem dX4_doNext_1 : decode cX4_doNext 1 = .ok (.istore_n 1, 1) := by decide +kernel
theorem dX4_doNext_2 : decode cX4_doNext 2 = .ok (.iload_n 1, 1) := by decide +kernel
theorem dX4_doNext_3 : decode cX4_doNext 3 = .ok (.aload_n 0, 1) := by decide +kernel
theorem dX4_doNext_4 : decode cX4_doNext 4 = .ok (.getfield 15, 3) := by decide +kernel
theorem dX4_doNext_7 : decode cX4_doNext 7 = .ok (.getfield 30, 3) := by decide +kernel
theorem dX4_doNext_10 : decode cX4_doNext 10 = .ok (.if_icmp .ge 75, 3) := by decide +kernel
theorem dX4_doNext_13 : decode cX4_doNext 13 = .ok (.aload_n 0, 1) := by decide +kernel
theorem dX4_doNext_14 : decode cX4_doNext 14 = .ok (.getfield 15, 3) := by decide +kernel
theorem dX4_doNext_17 : decode cX4_doNext 17 = .ok (.iload_n 1, 1) := by decide +kernel
theorem dX4_doNext_18 : decode cX4_doNext 18 = .ok (.invokevirtual 35, 3) := by decide +kernel
theorem dX4_doNext_21 : decode cX4_doNext 21 = .ok (.aload_n 0, 1) := by decide +kernel
theorem dX4_doNext_22 : decode cX4_doNext 22 = .ok (.getfield 23, 3) := by decide +kernel
theorem dX4_doNext_25 : decode cX4_doNext 25 = .ok (.iconst (-1), 1) := by decide +kernel
theorem dX4_doNext_26 : decode cX4_doNext 26 = .ok (.ixor, 1) := by decide +kernel
theorem dX4_doNext_27 : decode cX4_doNext 27 = .ok (.iand, 1) := by decide +kernel
theorem dX4_doNext_28 : decode cX4_doNext 28 = .ok (.istore_n 2, 1) := by decide +kernel
theorem dX4_doNext_29 : decode cX4_doNext 29 = .ok (.aload_n 0, 1) := by decide +kernel
theorem dX4_doNext_30 : decode cX4_doNext 30 = .ok (.iload_n 1, 1) := by decide +kernel
theorem dX4_doNext_31 : decode cX4_doNext 31 = .ok (.iload_n 2, 1) := by decide +kernel
theorem dX4_doNext_32 : decode cX4_doNext 32 = .ok (.invokevirtual 39, 3) := by decide +kernel
theorem dX4_doNext_35 : decode cX4_doNext 35 = .ok (.ifCond .eq 44, 3) := by decide +kernel
theorem dX4_doNext_38 : decode cX4_doNext 38 = .ok (.aload_n 0, 1) := by decide +kernel
theorem dX4_doNext_39 : decode cX4_doNext 39 = .ok (.getfield 19, 3) := by decide +kernel
theorem dX4_doNext_42 : decode cX4_doNext 42 = .ok (.bipush 6, 2) := by decide +kernel
theorem dX4_doNext_44 : decode cX4_doNext 44 = .ok (.if_icmp .ge 35, 3) := by decide +kernel
theorem dX4_doNext_47 : decode cX4_doNext 47 = .ok (.aload_n 0, 1) := by decide +kernel
theorem dX4_doNext_48 : decode cX4_doNext 48 = .ok (.getfield 9, 3) := by decide +kernel
theorem dX4_doNext_51 : decode cX4_doNext 51 = .ok (.aload_n 0, 1) := by decide +kernel
theorem dX4_doNext_52 : decode cX4_doNext 52 = .ok (.getfield 19, 3) := by decide +kernel
theorem dX4_doNext_55 : decode cX4_doNext 55 = .ok (.iload_n 1, 1) := by decide +kernel
theorem dX4_doNext_56 : decode cX4_doNext 56 = .ok (.iastore, 1) := by decide +kernel
theorem dX4_doNext_57 : decode cX4_doNext 57 = .ok (.aload_n 0, 1) := by decide +kernel
theorem dX4_doNext_58 : decode cX4_doNext 58 = .ok (.dup, 1) := by decide +kernel
theorem dX4_doNext_59 : decode cX4_doNext 59 = .ok (.getfield 19, 3) := by decide +kernel
theorem dX4_doNext_62 : decode cX4_doNext 62 = .ok (.iconst 1, 1) := by decide +kernel
theorem dX4_doNext_63 : decode cX4_doNext 63 = .ok (.iadd, 1) := by decide +kernel
theorem dX4_doNext_64 : decode cX4_doNext 64 = .ok (.putfield 19, 3) := by decide +kernel
theorem dX4_doNext_67 : decode cX4_doNext 67 = .ok (.aload_n 0, 1) := by decide +kernel
theorem dX4_doNext_68 : decode cX4_doNext 68 = .ok (.dup, 1) := by decide +kernel
theorem dX4_doNext_69 : decode cX4_doNext 69 = .ok (.getfield 23, 3) := by decide +kernel
theorem dX4_doNext_72 : decode cX4_doNext 72 = .ok (.iload_n 2, 1) := by decide +kernel
theorem dX4_doNext_73 : decode cX4_doNext 73 = .ok (.ior, 1) := by decide +kernel
theorem dX4_doNext_74 : decode cX4_doNext 74 = .ok (.putfield 23, 3) := by decide +kernel
theorem dX4_doNext_77 : decode cX4_doNext 77 = .ok (.iconst 1, 1) := by decide +kernel
theorem dX4_doNext_78 : decode cX4_doNext 78 = .ok (.ireturn, 1) := by decide +kernel
theorem dX4_doNext_79 : decode cX4_doNext 79 = .ok (.iinc 1 1, 3) := by decide +kernel
theorem dX4_doNext_82 : decode cX4_doNext 82 = .ok (.goto (-80), 3) := by decide +kernel
theorem dX4_doNext_85 : decode cX4_doNext 85 = .ok (.iconst 0, 1) := by decide +kernel
theorem dX4_doNext_86 : decode cX4_doNext 86 = .ok (.ireturn, 1) := by decide +kernel
set_option maxRecDepth 20000 in
theorem ggX4_determines_J6_bitCount_0f7a4 : GoodIn wsX4_determines wsJ6_bitCount_0f7a4 := goodIn_r _ [6, 7, 8, 9] (by decide +kernel) (by decide +kernel)
set_option maxRecDepth 20000 in
theorem gX4_determines_J6_bitCount_0f7a4 : GoodIn wsX4_determines (va_wsS RX4 47 yJ6_bitCount_0f7a4 wsJ6_bitCount_0f7a4) := goodIn_app (goodIn_of _ (by decide +kernel)) ggX4_determines_J6_bitCount_0f7a4
set_option maxRecDepth 20000 in
theorem ggX4_determines_X4_across : GoodIn wsX4_determines wsX4_across := goodIn_r _ [14, 1, 15, 16, 17, 18, 19, 20, 21, 22, 23, 24, 25, 26, 31, 32, 33, 34, 35, 36, 37, 38, 39, 40, 41, 42, 43, 44] (by decide +kernel) (by decide +kernel)
set_option maxRecDepth 20000 in
theorem gX4_determines_X4_across : GoodIn wsX4_determines (wsV RX4 52 RX4 yX4_across wsX4_across) := goodIn_app (goodIn_of _ (by decide +kernel)) ggX4_determines_X4_across
set_option maxRecDepth 20000 in
theorem ggX4_determines_X4_turns : GoodIn wsX4_determines wsX4_turns := goodIn_r _ [30, 10, 11, 12, 13, 14, 1, 15, 16, 17, 18, 19, 20, 21, 22, 23, 24, 25, 26, 31, 32, 33, 34, 35, 36, 37, 38, 39, 40, 41, 42, 43, 44] (by decide +kernel) (by decide +kernel)
set_option maxRecDepth 20000 in
theorem gX4_determines_X4_turns : GoodIn wsX4_determines (wsV RX4 56 RX4 yX4_turns wsX4_turns) := goodIn_app (goodIn_of _ (by decide +kernel)) ggX4_determines_X4_turns
theorem dX4_determines_0 : decode cX4_determines 0 = .ok (.aload_n 0, 1) := by decide +kernel
theorem dX4_determines_1 : decode cX4_determines 1 = .ok (.getfield 15, 3) := by decide +kernel
theorem dX4_determines_4 : decode cX4_determines 4 = .ok (.getfield 43, 3) := by decide +kernel
theorem dX4_determines_7 : decode cX4_determines 7 = .ok (.iconst 2, 1) := by decide +kernel
theorem dX4_determines_8 : decode cX4_determines 8 = .ok (.iload_n 1, 1) := by decide +kernel
theorem dX4_determines_9 : decode cX4_determines 9 = .ok (.imul, 1) := by decide +kernel
theorem dX4_determines_10 : decode cX4_determines 10 = .ok (.baload, 1) := by decide +kernel
theorem dX4_determines_11 : decode cX4_determines 11 = .ok (.ifCond .ne 7, 3) := by decide +kernel
theorem dX4_determines_14 : decode cX4_determines 14 = .ok (.iconst 1, 1) := by decide +kernel
theorem dX4_determines_15 : decode cX4_determines 15 = .ok (.goto 4, 3) := by decide +kernel
theorem dX4_determines_18 : decode cX4_determines 18 = .ok (.iconst 0, 1) := by decide +kernel
theorem dX4_determines_19 : decode cX4_determines 19 = .ok (.istore_n 3, 1) := by decide +kernel
theorem dX4_determines_20 : decode cX4_determines 20 = .ok (.aload_n 0, 1) := by decide +kernel
theorem dX4_determines_21 : decode cX4_determines 21 = .ok (.getfield 15, 3) := by decide +kernel
theorem dX4_determines_24 : decode cX4_determines 24 = .ok (.getfield 43, 3) := by decide +kernel
theorem dX4_determines_27 : decode cX4_determines 27 = .ok (.iconst 2, 1) := by decide +kernel
theorem dX4_determines_28 : decode cX4_determines 28 = .ok (.iload_n 1, 1) := by decide +kernel
theorem dX4_determines_29 : decode cX4_determines 29 = .ok (.imul, 1) := by decide +kernel
theorem dX4_determines_30 : decode cX4_determines 30 = .ok (.iconst 1, 1) := by decide +kernel
theorem dX4_determines_31 : decode cX4_determines 31 = .ok (.iadd, 1) := by decide +kernel
theorem dX4_determines_32 : decode cX4_determines 32 = .ok (.baload, 1) := by decide +kernel
theorem dX4_determines_33 : decode cX4_determines 33 = .ok (.ifCond .ne 7, 3) := by decide +kernel
theorem dX4_determines_36 : decode cX4_determines 36 = .ok (.iconst 1, 1) := by decide +kernel
theorem dX4_determines_37 : decode cX4_determines 37 = .ok (.goto 4, 3) := by decide +kernel
theorem dX4_determines_40 : decode cX4_determines 40 = .ok (.iconst 0, 1) := by decide +kernel
theorem dX4_determines_41 : decode cX4_determines 41 = .ok (.istore 4, 2) := by decide +kernel
theorem dX4_determines_43 : decode cX4_determines 43 = .ok (.iload_n 2, 1) := by decide +kernel
theorem dX4_determines_44 : decode cX4_determines 44 = .ok (.invokestatic 47, 3) := by decide +kernel
theorem dX4_determines_47 : decode cX4_determines 47 = .ok (.lookupswitch 84 #[(1, 25), (2, 60)], 25) := by decide +kernel
theorem dX4_determines_72 : decode cX4_determines 72 = .ok (.iload_n 3, 1) := by decide +kernel
theorem dX4_determines_73 : decode cX4_determines 73 = .ok (.ifCond .eq 13, 3) := by decide +kernel
theorem dX4_determines_76 : decode cX4_determines 76 = .ok (.aload_n 0, 1) := by decide +kernel
theorem dX4_determines_77 : decode cX4_determines 77 = .ok (.iload_n 1, 1) := by decide +kernel
theorem dX4_determines_78 : decode cX4_determines 78 = .ok (.iconst 0, 1) := by decide +kernel
theorem dX4_determines_79 : decode cX4_determines 79 = .ok (.iload_n 2, 1) := by decide +kernel
theorem dX4_determines_80 : decode cX4_determines 80 = .ok (.invokevirtual 52, 3) := by decide +kernel
theorem dX4_determines_83 : decode cX4_determines 83 = .ok (.ifCond .ne 18, 3) := by decide +kernel
theorem dX4_determines_86 : decode cX4_determines 86 = .ok (.iload 4, 2) := by decide +kernel
theorem dX4_determines_88 : decode cX4_determines 88 = .ok (.ifCond .eq 17, 3) := by decide +kernel
theorem dX4_determines_91 : decode cX4_determines 91 = .ok (.aload_n 0, 1) := by decide +kernel
theorem dX4_determines_92 : decode cX4_determines 92 = .ok (.iload_n 1, 1) := by decide +kernel
theorem dX4_determines_93 : decode cX4_determines 93 = .ok (.iconst 1, 1) := by decide +kernel
theorem dX4_determines_94 : decode cX4_determines 94 = .ok (.iload_n 2, 1) := by decide +kernel
theorem dX4_determines_95 : decode cX4_determines 95 = .ok (.invokevirtual 52, 3) := by decide +kernel
theorem dX4_determines_98 : decode cX4_determines 98 = .ok (.ifCond .eq 7, 3) := by decide +kernel
theorem dX4_determines_101 : decode cX4_determines 101 = .ok (.iconst 1, 1) := by decide +kernel
theorem dX4_determines_102 : decode cX4_determines 102 = .ok (.goto 4, 3) := by decide +kernel
theorem dX4_determines_105 : decode cX4_determines 105 = .ok (.iconst 0, 1) := by decide +kernel
theorem dX4_determines_106 : decode cX4_determines 106 = .ok (.ireturn, 1) := by decide +kernel
theorem dX4_determines_107 : decode cX4_determines 107 = .ok (.iload_n 3, 1) := by decide +kernel
theorem dX4_determines_108 : decode cX4_determines 108 = .ok (.ifCond .eq 21, 3) := by decide +kernel
theorem dX4_determines_111 : decode cX4_determines 111 = .ok (.iload 4, 2) := by decide +kernel
theorem dX4_determines_113 : decode cX4_determines 113 = .ok (.ifCond .eq 16, 3) := by decide +kernel
theorem dX4_determines_116 : decode cX4_determines 116 = .ok (.aload_n 0, 1) := by decide +kernel
theorem dX4_determines_117 : decode cX4_determines 117 = .ok (.iload_n 1, 1) := by decide +kernel
theorem dX4_determines_118 : decode cX4_determines 118 = .ok (.iload_n 2, 1) := by decide +kernel
theorem dX4_determines_119 : decode cX4_determines 119 = .ok (.invokevirtual 56, 3) := by decide +kernel
theorem dX4_determines_122 : decode cX4_determines 122 = .ok (.ifCond .eq 7, 3) := by decide +kernel
theorem dX4_determines_125 : decode cX4_determines 125 = .ok (.iconst 1, 1) := by decide +kernel
theorem dX4_determines_126 : decode cX4_determines 126 = .ok (.goto 4, 3) := by decide +kernel
theorem dX4_determines_129 : decode cX4_determines 129 = .ok (.iconst 0, 1) := by decide +kernel
theorem dX4_determines_130 : decode cX4_determines 130 = .ok (.ireturn, 1) := by decide +kernel
theorem dX4_determines_131 : decode cX4_determines 131 = .ok (.iconst 0, 1) := by decide +kernel
theorem dX4_determines_132 : decode cX4_determines 132 = .ok (.ireturn, 1) := by decide +kernel
set_option maxRecDepth 20000 in
theorem ggX4_across_X7_has : GoodIn wsX4_across wsX7_has := goodIn_r _ [5] (by decide +kernel) (by decide +kernel)
set_option maxRecDepth 20000 in
theorem gX4_across_X7_has_n62 : GoodIn wsX4_across (wsX7_has) := ggX4_across_X7_has
set_option maxRecDepth 20000 in
theorem ggX4_across_X3_brings : GoodIn wsX4_across wsX3_brings := goodIn_r _ [10, 11, 12, 13, 18, 19, 20, 21, 22, 23, 24, 25, 26, 27] (by decide +kernel) (by decide +kernel)
set_option maxRecDepth 20000 in
theorem gX4_across_X3_brings : GoodIn wsX4_across (wsV RX4 65 RX3 yX3_brings wsX3_brings) := goodIn_app (goodIn_of _ (by decide +kernel)) ggX4_across_X3_brings
theorem dX4_across_0 : decode cX4_across 0 = .ok (.iconst 0, 1) := by decide +kernel
theorem dX4_across_1 : decode cX4_across 1 = .ok (.istore 4, 2) := by decide +kernel
theorem dX4_across_3 : decode cX4_across 3 = .ok (.iconst 0, 1) := by decide +kernel
theorem dX4_across_4 : decode cX4_across 4 = .ok (.istore 5, 2) := by decide +kernel
theorem dX4_across_6 : decode cX4_across 6 = .ok (.iload 5, 2) := by decide +kernel
theorem dX4_across_8 : decode cX4_across 8 = .ok (.aload_n 0, 1) := by decide +kernel
theorem dX4_across_9 : decode cX4_across 9 = .ok (.getfield 15, 3) := by decide +kernel
theorem dX4_across_12 : decode cX4_across 12 = .ok (.getfield 59, 3) := by decide +kernel
theorem dX4_across_15 : decode cX4_across 15 = .ok (.if_icmp .ge 37, 3) := by decide +kernel
theorem dX4_across_18 : decode cX4_across 18 = .ok (.iload_n 3, 1) := by decide +kernel
theorem dX4_across_19 : decode cX4_across 19 = .ok (.iload 5, 2) := by decide +kernel
theorem dX4_across_21 : decode cX4_across 21 = .ok (.invokestatic 62, 3) := by decide +kernel
theorem dX4_across_24 : decode cX4_across 24 = .ok (.ifCond .eq 22, 3) := by decide +kernel
theorem dX4_across_27 : decode cX4_across 27 = .ok (.iload 4, 2) := by decide +kernel
theorem dX4_across_29 : decode cX4_across 29 = .ok (.aload_n 0, 1) := by decide +kernel
theorem dX4_across_30 : decode cX4_across 30 = .ok (.getfield 15, 3) := by decide +kernel
theorem dX4_across_33 : decode cX4_across 33 = .ok (.iload 5, 2) := by decide +kernel
theorem dX4_across_35 : decode cX4_across 35 = .ok (.iconst 2, 1) := by decide +kernel
theorem dX4_across_36 : decode cX4_across 36 = .ok (.iload_n 1, 1) := by decide +kernel
theorem dX4_across_37 : decode cX4_across 37 = .ok (.imul, 1) := by decide +kernel
theorem dX4_across_38 : decode cX4_across 38 = .ok (.iload_n 2, 1) := by decide +kernel
theorem dX4_across_39 : decode cX4_across 39 = .ok (.iadd, 1) := by decide +kernel
theorem dX4_across_40 : decode cX4_across 40 = .ok (.invokevirtual 65, 3) := by decide +kernel
theorem dX4_across_43 : decode cX4_across 43 = .ok (.iadd, 1) := by decide +kernel
theorem dX4_across_44 : decode cX4_across 44 = .ok (.istore 4, 2) := by decide +kernel
theorem dX4_across_46 : decode cX4_across 46 = .ok (.iinc 5 1, 3) := by decide +kernel
theorem dX4_across_49 : decode cX4_across 49 = .ok (.goto (-43), 3) := by decide +kernel
theorem dX4_across_52 : decode cX4_across 52 = .ok (.iload 4, 2) := by decide +kernel
theorem dX4_across_54 : decode cX4_across 54 = .ok (.ireturn, 1) := by decide +kernel
set_option maxRecDepth 20000 in
theorem ggX4_turns_X4_across : GoodIn wsX4_turns wsX4_across := goodIn_r _ [5, 6, 7, 8, 9, 10, 11, 12, 13, 14, 15, 16, 17, 18, 19, 20, 21, 22, 23, 24, 25, 26, 27, 28, 29, 30, 31, 32] (by decide +kernel) (by decide +kernel)
set_option maxRecDepth 20000 in
theorem gX4_turns_X4_across : GoodIn wsX4_turns (wsV RX4 52 RX4 yX4_across wsX4_across) := goodIn_app (goodIn_of _ (by decide +kernel)) ggX4_turns_X4_across
theorem dX4_turns_0 : decode cX4_turns 0 = .ok (.iload_n 2, 1) := by decide +kernel
theorem dX4_turns_1 : decode cX4_turns 1 = .ok (.iload_n 2, 1) := by decide +kernel
theorem dX4_turns_2 : decode cX4_turns 2 = .ok (.iconst 1, 1) := by decide +kernel
theorem dX4_turns_3 : decode cX4_turns 3 = .ok (.isub, 1) := by decide +kernel
theorem dX4_turns_4 : decode cX4_turns 4 = .ok (.iand, 1) := by decide +kernel
theorem dX4_turns_5 : decode cX4_turns 5 = .ok (.istore_n 3, 1) := by decide +kernel
theorem dX4_turns_6 : decode cX4_turns 6 = .ok (.iload_n 2, 1) := by decide +kernel
theorem dX4_turns_7 : decode cX4_turns 7 = .ok (.iload_n 3, 1) := by decide +kernel
theorem dX4_turns_8 : decode cX4_turns 8 = .ok (.ixor, 1) := by decide +kernel
theorem dX4_turns_9 : decode cX4_turns 9 = .ok (.istore 4, 2) := by decide +kernel
theorem dX4_turns_11 : decode cX4_turns 11 = .ok (.aload_n 0, 1) := by decide +kernel
theorem dX4_turns_12 : decode cX4_turns 12 = .ok (.iload_n 1, 1) := by decide +kernel
theorem dX4_turns_13 : decode cX4_turns 13 = .ok (.iconst 0, 1) := by decide +kernel
theorem dX4_turns_14 : decode cX4_turns 14 = .ok (.iload 4, 2) := by decide +kernel
theorem dX4_turns_16 : decode cX4_turns 16 = .ok (.invokevirtual 52, 3) := by decide +kernel
theorem dX4_turns_19 : decode cX4_turns 19 = .ok (.aload_n 0, 1) := by decide +kernel
theorem dX4_turns_20 : decode cX4_turns 20 = .ok (.iload_n 1, 1) := by decide +kernel
theorem dX4_turns_21 : decode cX4_turns 21 = .ok (.iconst 1, 1) := by decide +kernel
theorem dX4_turns_22 : decode cX4_turns 22 = .ok (.iload_n 3, 1) := by decide +kernel
theorem dX4_turns_23 : decode cX4_turns 23 = .ok (.invokevirtual 52, 3) := by decide +kernel
theorem dX4_turns_26 : decode cX4_turns 26 = .ok (.imul, 1) := by decide +kernel
theorem dX4_turns_27 : decode cX4_turns 27 = .ok (.istore 5, 2) := by decide +kernel
theorem dX4_turns_29 : decode cX4_turns 29 = .ok (.aload_n 0, 1) := by decide +kernel
theorem dX4_turns_30 : decode cX4_turns 30 = .ok (.iload_n 1, 1) := by decide +kernel
theorem dX4_turns_31 : decode cX4_turns 31 = .ok (.iconst 1, 1) := by decide +kernel
theorem dX4_turns_32 : decode cX4_turns 32 = .ok (.iload 4, 2) := by decide +kernel
theorem dX4_turns_34 : decode cX4_turns 34 = .ok (.invokevirtual 52, 3) := by decide +kernel
theorem dX4_turns_37 : decode cX4_turns 37 = .ok (.aload_n 0, 1) := by decide +kernel
theorem dX4_turns_38 : decode cX4_turns 38 = .ok (.iload_n 1, 1) := by decide +kernel
theorem dX4_turns_39 : decode cX4_turns 39 = .ok (.iconst 0, 1) := by decide +kernel
theorem dX4_turns_40 : decode cX4_turns 40 = .ok (.iload_n 3, 1) := by decide +kernel
theorem dX4_turns_41 : decode cX4_turns 41 = .ok (.invokevirtual 52, 3) := by decide +kernel
theorem dX4_turns_44 : decode cX4_turns 44 = .ok (.imul, 1) := by decide +kernel
theorem dX4_turns_45 : decode cX4_turns 45 = .ok (.istore 6, 2) := by decide +kernel
theorem dX4_turns_47 : decode cX4_turns 47 = .ok (.iload 5, 2) := by decide +kernel
theorem dX4_turns_49 : decode cX4_turns 49 = .ok (.iload 6, 2) := by decide +kernel
theorem dX4_turns_51 : decode cX4_turns 51 = .ok (.if_icmp .eq 7, 3) := by decide +kernel
theorem dX4_turns_54 : decode cX4_turns 54 = .ok (.iconst 1, 1) := by decide +kernel
theorem dX4_turns_55 : decode cX4_turns 55 = .ok (.goto 4, 3) := by decide +kernel
theorem dX4_turns_58 : decode cX4_turns 58 = .ok (.iconst 0, 1) := by decide +kernel
theorem dX4_turns_59 : decode cX4_turns 59 = .ok (.ireturn, 1) := by decide +kernel
theorem dX5_init_0 : decode cX5_init 0 = .ok (.aload_n 0, 1) := by decide +kernel
theorem dX5_init_1 : decode cX5_init 1 = .ok (.invokespecial 3, 3) := by decide +kernel
theorem dX5_init_4 : decode cX5_init 4 = .ok (.aload_n 0, 1) := by decide +kernel
theorem dX5_init_5 : decode cX5_init 5 = .ok (.bipush 11, 2) := by decide +kernel
theorem dX5_init_7 : decode cX5_init 7 = .ok (.newarray .long, 2) := by decide +kernel
theorem dX5_init_9 : decode cX5_init 9 = .ok (.putfield 9, 3) := by decide +kernel
theorem dX5_init_12 : decode cX5_init 12 = .ok (.aload_n 0, 1) := by decide +kernel
theorem dX5_init_13 : decode cX5_init 13 = .ok (.iconst 2, 1) := by decide +kernel
theorem dX5_init_14 : decode cX5_init 14 = .ok (.bipush 11, 2) := by decide +kernel
theorem dX5_init_16 : decode cX5_init 16 = .ok (.multianewarray 15 2, 4) := by decide +kernel
theorem dX5_init_20 : decode cX5_init 20 = .ok (.putfield 17, 3) := by decide +kernel
theorem dX5_init_23 : decode cX5_init 23 = .ok (.aload_n 0, 1) := by decide +kernel
theorem dX5_init_24 : decode cX5_init 24 = .ok (.bipush 11, 2) := by decide +kernel
theorem dX5_init_26 : decode cX5_init 26 = .ok (.bipush 11, 2) := by decide +kernel
theorem dX5_init_28 : decode cX5_init 28 = .ok (.multianewarray 15 2, 4) := by decide +kernel
theorem dX5_init_32 : decode cX5_init 32 = .ok (.putfield 20, 3) := by decide +kernel
theorem dX5_init_35 : decode cX5_init 35 = .ok (.aload_n 0, 1) := by decide +kernel
theorem dX5_init_36 : decode cX5_init 36 = .ok (.aload_n 1, 1) := by decide +kernel
theorem dX5_init_37 : decode cX5_init 37 = .ok (.putfield 23, 3) := by decide +kernel
theorem dX5_init_40 : decode cX5_init 40 = .ok (.aload_n 0, 1) := by decide +kernel
theorem dX5_init_41 : decode cX5_init 41 = .ok (.aload_n 2, 1) := by decide +kernel
theorem dX5_init_42 : decode cX5_init 42 = .ok (.putfield 27, 3) := by decide +kernel
theorem dX5_init_45 : decode cX5_init 45 = .ok (.return_, 1) := by decide +kernel
theorem dX5_isSpare_0 : decode cX5_isSpare 0 = .ok (.iload_n 1, 1) := by decide +kernel
theorem dX5_isSpare_1 : decode cX5_isSpare 1 = .ok (.ifCond .lt 15, 3) := by decide +kernel
theorem dX5_isSpare_4 : decode cX5_isSpare 4 = .ok (.iload_n 1, 1) := by decide +kernel
theorem dX5_isSpare_5 : decode cX5_isSpare 5 = .ok (.aload_n 0, 1) := by decide +kernel
theorem dX5_isSpare_6 : decode cX5_isSpare 6 = .ok (.getfield 31, 3) := by decide +kernel
theorem dX5_isSpare_9 : decode cX5_isSpare 9 = .ok (.if_icmp .ge 7, 3) := by decide +kernel
theorem dX5_isSpare_12 : decode cX5_isSpare 12 = .ok (.iconst 1, 1) := by decide +kernel
theorem dX5_isSpare_13 : decode cX5_isSpare 13 = .ok (.goto 4, 3) := by decide +kernel
theorem dX5_isSpare_16 : decode cX5_isSpare 16 = .ok (.iconst 0, 1) := by decide +kernel
theorem dX5_isSpare_17 : decode cX5_isSpare 17 = .ok (.ireturn, 1) := by decide +kernel
set_option maxRecDepth 20000 in
theorem ggX5_prepare_X7_has : GoodIn wsX5_prepare wsX7_has := goodIn_r _ [10] (by decide +kernel) (by decide +kernel)
set_option maxRecDepth 20000 in
theorem gX5_prepare_X7_has_n45 : GoodIn wsX5_prepare (wsX7_has) := ggX5_prepare_X7_has
set_option maxRecDepth 20000 in
theorem ggX5_prepare_X5_layUnit : GoodIn wsX5_prepare wsX5_layUnit := goodIn_r _ [15, 16, 4, 17, 18, 19, 6, 41, 42, 43, 44, 45, 46, 47, 58, 59, 60, 61, 62, 63, 64, 65, 66] (by decide +kernel) (by decide +kernel)
set_option maxRecDepth 20000 in
theorem gX5_prepare_X5_layUnit : GoodIn wsX5_prepare (wsV RX5 49 RX5 yX5_layUnit wsX5_layUnit) := goodIn_app (goodIn_of _ (by decide +kernel)) ggX5_prepare_X5_layUnit
set_option maxRecDepth 20000 in
theorem ggX5_prepare_X5_giving : GoodIn wsX5_prepare wsX5_giving := goodIn_r _ [23, 2, 3, 24, 25, 26, 27, 14, 28, 16, 29, 30, 31, 32, 33, 1, 41, 42, 43, 44, 45, 46, 47, 48, 49, 50, 51, 52, 53, 54, 55, 56, 57] (by decide +kernel) (by decide +kernel)
set_option maxRecDepth 20000 in
theorem gX5_prepare_X5_giving : GoodIn wsX5_prepare (wsV RX5 60 RX5 yX5_giving wsX5_giving) := goodIn_app (goodIn_of _ (by decide +kernel)) ggX5_prepare_X5_giving
set_option maxRecDepth 20000 in
theorem ggX5_prepare_X5_layPairs : GoodIn wsX5_prepare wsX5_layPairs := goodIn_r _ [37, 7, 2, 3, 16, 38, 4, 6, 24, 39, 9, 40, 41, 42, 43, 44, 45, 46, 47, 48, 49, 50, 51, 52, 53, 54, 55, 56, 57, 58, 59, 60, 61, 62, 63, 64, 65, 66] (by decide +kernel) (by decide +kernel)
set_option maxRecDepth 20000 in
theorem gX5_prepare_X5_layPairs : GoodIn wsX5_prepare (wsV RX5 64 RX5 yX5_layPairs wsX5_layPairs) := goodIn_app (goodIn_of _ (by decide +kernel)) ggX5_prepare_X5_layPairs
theorem dX5_prepare_0 : decode cX5_prepare 0 = .ok (.aload_n 0, 1) := by decide +kernel
theorem dX5_prepare_1 : decode cX5_prepare 1 = .ok (.iconst 0, 1) := by decide +kernel
theorem dX5_prepare_2 : decode cX5_prepare 2 = .ok (.putfield 31, 3) := by decide +kernel
theorem dX5_prepare_5 : decode cX5_prepare 5 = .ok (.iconst 0, 1) := by decide +kernel
theorem dX5_prepare_6 : decode cX5_prepare 6 = .ok (.istore_n 1, 1) := by decide +kernel
theorem dX5_prepare_7 : decode cX5_prepare 7 = .ok (.iload_n 1, 1) := by decide +kernel
theorem dX5_prepare_8 : decode cX5_prepare 8 = .ok (.aload_n 0, 1) := by decide +kernel
theorem dX5_prepare_9 : decode cX5_prepare 9 = .ok (.getfield 23, 3) := by decide +kernel
theorem dX5_prepare_12 : decode cX5_prepare 12 = .ok (.getfield 35, 3) := by decide +kernel
theorem dX5_prepare_15 : decode cX5_prepare 15 = .ok (.if_icmp .ge 50, 3) := by decide +kernel
theorem dX5_prepare_18 : decode cX5_prepare 18 = .ok (.aload_n 0, 1) := by decide +kernel
theorem dX5_prepare_19 : decode cX5_prepare 19 = .ok (.getfield 27, 3) := by decide +kernel
theorem dX5_prepare_22 : decode cX5_prepare 22 = .ok (.getfield 40, 3) := by decide +kernel
theorem dX5_prepare_25 : decode cX5_prepare 25 = .ok (.iload_n 1, 1) := by decide +kernel
theorem dX5_prepare_26 : decode cX5_prepare 26 = .ok (.invokestatic 45, 3) := by decide +kernel
theorem dX5_prepare_29 : decode cX5_prepare 29 = .ok (.ifCond .eq 30, 3) := by decide +kernel
theorem dX5_prepare_32 : decode cX5_prepare 32 = .ok (.aload_n 0, 1) := by decide +kernel
theorem dX5_prepare_33 : decode cX5_prepare 33 = .ok (.getfield 31, 3) := by decide +kernel
theorem dX5_prepare_36 : decode cX5_prepare 36 = .ok (.iconst 2, 1) := by decide +kernel
theorem dX5_prepare_37 : decode cX5_prepare 37 = .ok (.if_icmp .ge 22, 3) := by decide +kernel
theorem dX5_prepare_40 : decode cX5_prepare 40 = .ok (.aload_n 0, 1) := by decide +kernel
theorem dX5_prepare_41 : decode cX5_prepare 41 = .ok (.aload_n 0, 1) := by decide +kernel
theorem dX5_prepare_42 : decode cX5_prepare 42 = .ok (.getfield 31, 3) := by decide +kernel
theorem dX5_prepare_45 : decode cX5_prepare 45 = .ok (.iload_n 1, 1) := by decide +kernel
theorem dX5_prepare_46 : decode cX5_prepare 46 = .ok (.invokevirtual 49, 3) := by decide +kernel
theorem dX5_prepare_49 : decode cX5_prepare 49 = .ok (.aload_n 0, 1) := by decide +kernel
theorem dX5_prepare_50 : decode cX5_prepare 50 = .ok (.dup, 1) := by decide +kernel
theorem dX5_prepare_51 : decode cX5_prepare 51 = .ok (.getfield 31, 3) := by decide +kernel
theorem dX5_prepare_54 : decode cX5_prepare 54 = .ok (.iconst 1, 1) := by decide +kernel
theorem dX5_prepare_55 : decode cX5_prepare 55 = .ok (.iadd, 1) := by decide +kernel
theorem dX5_prepare_56 : decode cX5_prepare 56 = .ok (.putfield 31, 3) := by decide +kernel
theorem dX5_prepare_59 : decode cX5_prepare 59 = .ok (.iinc 1 1, 3) := by decide +kernel
theorem dX5_prepare_62 : decode cX5_prepare 62 = .ok (.goto (-55), 3) := by decide +kernel
theorem dX5_prepare_65 : decode cX5_prepare 65 = .ok (.aload_n 0, 1) := by decide +kernel
theorem dX5_prepare_66 : decode cX5_prepare 66 = .ok (.getfield 31, 3) := by decide +kernel
theorem dX5_prepare_69 : decode cX5_prepare 69 = .ok (.ifCond .ne 17, 3) := by decide +kernel
theorem dX5_prepare_72 : decode cX5_prepare 72 = .ok (.aload_n 0, 1) := by decide +kernel
theorem dX5_prepare_73 : decode cX5_prepare 73 = .ok (.aload_n 0, 1) := by decide +kernel
theorem dX5_prepare_74 : decode cX5_prepare 74 = .ok (.getfield 27, 3) := by decide +kernel
theorem dX5_prepare_77 : decode cX5_prepare 77 = .ok (.getfield 53, 3) := by decide +kernel
theorem dX5_prepare_80 : decode cX5_prepare 80 = .ok (.putfield 57, 3) := by decide +kernel
theorem dX5_prepare_83 : decode cX5_prepare 83 = .ok (.goto 28, 3) := by decide +kernel
theorem dX5_prepare_86 : decode cX5_prepare 86 = .ok (.aload_n 0, 1) := by decide +kernel
theorem dX5_prepare_87 : decode cX5_prepare 87 = .ok (.getfield 31, 3) := by decide +kernel
theorem dX5_prepare_90 : decode cX5_prepare 90 = .ok (.iconst 1, 1) := by decide +kernel
theorem dX5_prepare_91 : decode cX5_prepare 91 = .ok (.if_icmp .ne 16, 3) := by decide +kernel
theorem dX5_prepare_94 : decode cX5_prepare 94 = .ok (.aload_n 0, 1) := by decide +kernel
theorem dX5_prepare_95 : decode cX5_prepare 95 = .ok (.aload_n 0, 1) := by decide +kernel
theorem dX5_prepare_96 : decode cX5_prepare 96 = .ok (.iconst 0, 1) := by decide +kernel
theorem dX5_prepare_97 : decode cX5_prepare 97 = .ok (.iconst 0, 1) := by decide +kernel
theorem dX5_prepare_98 : decode cX5_prepare 98 = .ok (.invokevirtual 60, 3) := by decide +kernel
theorem dX5_prepare_101 : decode cX5_prepare 101 = .ok (.putfield 57, 3) := by decide +kernel
theorem dX5_prepare_104 : decode cX5_prepare 104 = .ok (.goto 7, 3) := by decide +kernel
theorem dX5_prepare_107 : decode cX5_prepare 107 = .ok (.aload_n 0, 1) := by decide +kernel
theorem dX5_prepare_108 : decode cX5_prepare 108 = .ok (.invokevirtual 64, 3) := by decide +kernel
theorem dX5_prepare_111 : decode cX5_prepare 111 = .ok (.return_, 1) := by decide +kernel
theorem dX5_bear_0 : decode cX5_bear 0 = .ok (.iconst 0, 1) := by decide +kernel
theorem dX5_bear_1 : decode cX5_bear 1 = .ok (.istore_n 2, 1) := by decide +kernel
theorem dX5_bear_2 : decode cX5_bear 2 = .ok (.iload_n 2, 1) := by decide +kernel
theorem dX5_bear_3 : decode cX5_bear 3 = .ok (.bipush 11, 2) := by decide +kernel
theorem dX5_bear_5 : decode cX5_bear 5 = .ok (.if_icmp .ge 16, 3) := by decide +kernel
theorem dX5_bear_8 : decode cX5_bear 8 = .ok (.aload_n 0, 1) := by decide +kernel
theorem dX5_bear_9 : decode cX5_bear 9 = .ok (.getfield 9, 3) := by decide +kernel
theorem dX5_bear_12 : decode cX5_bear 12 = .ok (.iload_n 2, 1) := by decide +kernel
theorem dX5_bear_13 : decode cX5_bear 13 = .ok (.lconst 0, 1) := by decide +kernel
theorem dX5_bear_14 : decode cX5_bear 14 = .ok (.lastore, 1) := by decide +kernel
theorem dX5_bear_15 : decode cX5_bear 15 = .ok (.iinc 2 1, 3) := by decide +kernel
theorem dX5_bear_18 : decode cX5_bear 18 = .ok (.goto (-16), 3) := by decide +kernel
theorem dX5_bear_21 : decode cX5_bear 21 = .ok (.iconst 0, 1) := by decide +kernel
theorem dX5_bear_22 : decode cX5_bear 22 = .ok (.istore_n 2, 1) := by decide +kernel
theorem dX5_bear_23 : decode cX5_bear 23 = .ok (.iload_n 2, 1) := by decide +kernel
theorem dX5_bear_24 : decode cX5_bear 24 = .ok (.aload_n 0, 1) := by decide +kernel
theorem dX5_bear_25 : decode cX5_bear 25 = .ok (.getfield 27, 3) := by decide +kernel
theorem dX5_bear_28 : decode cX5_bear 28 = .ok (.getfield 67, 3) := by decide +kernel
theorem dX5_bear_31 : decode cX5_bear 31 = .ok (.if_icmp .ge 85, 3) := by decide +kernel
theorem dX5_bear_34 : decode cX5_bear 34 = .ok (.lconst 0, 1) := by decide +kernel
theorem dX5_bear_35 : decode cX5_bear 35 = .ok (.lstore_n 3, 1) := by decide +kernel
theorem dX5_bear_36 : decode cX5_bear 36 = .ok (.iconst 0, 1) := by decide +kernel
theorem dX5_bear_37 : decode cX5_bear 37 = .ok (.istore 5, 2) := by decide +kernel
theorem dX5_bear_39 : decode cX5_bear 39 = .ok (.iload 5, 2) := by decide +kernel
theorem dX5_bear_41 : decode cX5_bear 41 = .ok (.aload_n 0, 1) := by decide +kernel
theorem dX5_bear_42 : decode cX5_bear 42 = .ok (.getfield 27, 3) := by decide +kernel
theorem dX5_bear_45 : decode cX5_bear 45 = .ok (.getfield 70, 3) := by decide +kernel
theorem dX5_bear_48 : decode cX5_bear 48 = .ok (.if_icmp .ge 46, 3) := by decide +kernel
theorem dX5_bear_51 : decode cX5_bear 51 = .ok (.lload_n 3, 1) := by decide +kernel
theorem dX5_bear_52 : decode cX5_bear 52 = .ok (.aload_n 0, 1) := by decide +kernel
theorem dX5_bear_53 : decode cX5_bear 53 = .ok (.getfield 27, 3) := by decide +kernel
theorem dX5_bear_56 : decode cX5_bear 56 = .ok (.getfield 73, 3) := by decide +kernel
theorem dX5_bear_59 : decode cX5_bear 59 = .ok (.iload_n 2, 1) := by decide +kernel
theorem dX5_bear_60 : decode cX5_bear 60 = .ok (.aaload, 1) := by decide +kernel
theorem dX5_bear_61 : decode cX5_bear 61 = .ok (.aload_n 0, 1) := by decide +kernel
theorem dX5_bear_62 : decode cX5_bear 62 = .ok (.getfield 23, 3) := by decide +kernel
theorem dX5_bear_65 : decode cX5_bear 65 = .ok (.getfield 35, 3) := by decide +kernel
theorem dX5_bear_68 : decode cX5_bear 68 = .ok (.iload 5, 2) := by decide +kernel
theorem dX5_bear_70 : decode cX5_bear 70 = .ok (.iadd, 1) := by decide +kernel
theorem dX5_bear_71 : decode cX5_bear 71 = .ok (.laload, 1) := by decide +kernel
theorem dX5_bear_72 : decode cX5_bear 72 = .ok (.aload_n 1, 1) := by decide +kernel
theorem dX5_bear_73 : decode cX5_bear 73 = .ok (.aload_n 0, 1) := by decide +kernel
theorem dX5_bear_74 : decode cX5_bear 74 = .ok (.getfield 27, 3) := by decide +kernel
theorem dX5_bear_77 : decode cX5_bear 77 = .ok (.getfield 76, 3) := by decide +kernel
theorem dX5_bear_80 : decode cX5_bear 80 = .ok (.iload 5, 2) := by decide +kernel
theorem dX5_bear_82 : decode cX5_bear 82 = .ok (.iaload, 1) := by decide +kernel
theorem dX5_bear_83 : decode cX5_bear 83 = .ok (.iaload, 1) := by decide +kernel
theorem dX5_bear_84 : decode cX5_bear 84 = .ok (.i2l, 1) := by decide +kernel
theorem dX5_bear_85 : decode cX5_bear 85 = .ok (.lmul, 1) := by decide +kernel
theorem dX5_bear_86 : decode cX5_bear 86 = .ok (.ladd, 1) := by decide +kernel
theorem dX5_bear_87 : decode cX5_bear 87 = .ok (.lstore_n 3, 1) := by decide +kernel
theorem dX5_bear_88 : decode cX5_bear 88 = .ok (.iinc 5 1, 3) := by decide +kernel
theorem dX5_bear_91 : decode cX5_bear 91 = .ok (.goto (-52), 3) := by decide +kernel
theorem dX5_bear_94 : decode cX5_bear 94 = .ok (.aload_n 0, 1) := by decide +kernel
theorem dX5_bear_95 : decode cX5_bear 95 = .ok (.getfield 9, 3) := by decide +kernel
theorem dX5_bear_98 : decode cX5_bear 98 = .ok (.aload_n 0, 1) := by decide +kernel
theorem dX5_bear_99 : decode cX5_bear 99 = .ok (.getfield 27, 3) := by decide +kernel
theorem dX5_bear_102 : decode cX5_bear 102 = .ok (.getfield 80, 3) := by decide +kernel
theorem dX5_bear_105 : decode cX5_bear 105 = .ok (.iload_n 2, 1) := by decide +kernel
theorem dX5_bear_106 : decode cX5_bear 106 = .ok (.iaload, 1) := by decide +kernel
theorem dX5_bear_107 : decode cX5_bear 107 = .ok (.lload_n 3, 1) := by decide +kernel
theorem dX5_bear_108 : decode cX5_bear 108 = .ok (.lneg, 1) := by decide +kernel
theorem dX5_bear_109 : decode cX5_bear 109 = .ok (.lastore, 1) := by decide +kernel
theorem dX5_bear_110 : decode cX5_bear 110 = .ok (.iinc 2 1, 3) := by decide +kernel
theorem dX5_bear_113 : decode cX5_bear 113 = .ok (.goto (-90), 3) := by decide +kernel
theorem dX5_bear_116 : decode cX5_bear 116 = .ok (.return_, 1) := by decide +kernel
set_option maxRecDepth 20000 in
theorem ggX5_stateOf_X5_isSpare : GoodIn wsX5_stateOf wsX5_isSpare := goodIn_r _ [7, 8, 9, 10, 11, 12, 13, 14, 15] (by decide +kernel) (by decide +kernel)
set_option maxRecDepth 20000 in
theorem gX5_stateOf_X5_isSpare : GoodIn wsX5_stateOf (wsV RX5 83 RX5 yX5_isSpare wsX5_isSpare) := goodIn_app (goodIn_of _ (by decide +kernel)) ggX5_stateOf_X5_isSpare
theorem dX5_stateOf_0 : decode cX5_stateOf 0 = .ok (.aload_n 0, 1) := by decide +kernel
theorem dX5_stateOf_1 : decode cX5_stateOf 1 = .ok (.iload_n 1, 1) := by decide +kernel
theorem dX5_stateOf_2 : decode cX5_stateOf 2 = .ok (.invokevirtual 83, 3) := by decide +kernel
theorem dX5_stateOf_5 : decode cX5_stateOf 5 = .ok (.ifCond .eq 14, 3) := by decide +kernel
theorem dX5_stateOf_8 : decode cX5_stateOf 8 = .ok (.aload_n 0, 1) := by decide +kernel
theorem dX5_stateOf_9 : decode cX5_stateOf 9 = .ok (.getfield 17, 3) := by decide +kernel
theorem dX5_stateOf_12 : decode cX5_stateOf 12 = .ok (.iload_n 1, 1) := by decide +kernel
theorem dX5_stateOf_13 : decode cX5_stateOf 13 = .ok (.aaload, 1) := by decide +kernel
theorem dX5_stateOf_14 : decode cX5_stateOf 14 = .ok (.iload_n 2, 1) := by decide +kernel
theorem dX5_stateOf_15 : decode cX5_stateOf 15 = .ok (.laload, 1) := by decide +kernel
theorem dX5_stateOf_16 : decode cX5_stateOf 16 = .ok (.goto 9, 3) := by decide +kernel
theorem dX5_stateOf_19 : decode cX5_stateOf 19 = .ok (.aload_n 0, 1) := by decide +kernel
theorem dX5_stateOf_20 : decode cX5_stateOf 20 = .ok (.getfield 9, 3) := by decide +kernel
theorem dX5_stateOf_23 : decode cX5_stateOf 23 = .ok (.iload_n 2, 1) := by decide +kernel
theorem dX5_stateOf_24 : decode cX5_stateOf 24 = .ok (.laload, 1) := by decide +kernel
theorem dX5_stateOf_25 : decode cX5_stateOf 25 = .ok (.lreturn, 1) := by decide +kernel
set_option maxRecDepth 20000 in
theorem ggX5_giving_X5_stateOf : GoodIn wsX5_giving wsX5_stateOf := goodIn_r _ [8, 9, 10, 11, 12, 13, 7, 14, 15, 16, 17, 18, 19, 20, 21, 22] (by decide +kernel) (by decide +kernel)
set_option maxRecDepth 20000 in
theorem gX5_giving_X5_stateOf : GoodIn wsX5_giving (wsV RX5 90 RX5 yX5_stateOf wsX5_stateOf) := goodIn_app (goodIn_of _ (by decide +kernel)) ggX5_giving_X5_stateOf
theorem dX5_giving_0 : decode cX5_giving 0 = .ok (.lconst 0, 1) := by decide +kernel
theorem dX5_giving_1 : decode cX5_giving 1 = .ok (.lstore_n 3, 1) := by decide +kernel
theorem dX5_giving_2 : decode cX5_giving 2 = .ok (.iconst 0, 1) := by decide +kernel
theorem dX5_giving_3 : decode cX5_giving 3 = .ok (.istore 5, 2) := by decide +kernel
theorem dX5_giving_5 : decode cX5_giving 5 = .ok (.iload 5, 2) := by decide +kernel
theorem dX5_giving_7 : decode cX5_giving 7 = .ok (.aload_n 0, 1) := by decide +kernel
theorem dX5_giving_8 : decode cX5_giving 8 = .ok (.getfield 23, 3) := by decide +kernel
theorem dX5_giving_11 : decode cX5_giving 11 = .ok (.getfield 35, 3) := by decide +kernel
theorem dX5_giving_14 : decode cX5_giving 14 = .ok (.if_icmp .ge 39, 3) := by decide +kernel
theorem dX5_giving_17 : decode cX5_giving 17 = .ok (.lload_n 3, 1) := by decide +kernel
theorem dX5_giving_18 : decode cX5_giving 18 = .ok (.aload_n 0, 1) := by decide +kernel
theorem dX5_giving_19 : decode cX5_giving 19 = .ok (.getfield 23, 3) := by decide +kernel
theorem dX5_giving_22 : decode cX5_giving 22 = .ok (.getfield 87, 3) := by decide +kernel
theorem dX5_giving_25 : decode cX5_giving 25 = .ok (.iload 5, 2) := by decide +kernel
theorem dX5_giving_27 : decode cX5_giving 27 = .ok (.iaload, 1) := by decide +kernel
theorem dX5_giving_28 : decode cX5_giving 28 = .ok (.i2l, 1) := by decide +kernel
theorem dX5_giving_29 : decode cX5_giving 29 = .ok (.aload_n 0, 1) := by decide +kernel
theorem dX5_giving_30 : decode cX5_giving 30 = .ok (.iload_n 1, 1) := by decide +kernel
theorem dX5_giving_31 : decode cX5_giving 31 = .ok (.iload 5, 2) := by decide +kernel
theorem dX5_giving_33 : decode cX5_giving 33 = .ok (.invokevirtual 90, 3) := by decide +kernel
theorem dX5_giving_36 : decode cX5_giving 36 = .ok (.lmul, 1) := by decide +kernel
theorem dX5_giving_37 : decode cX5_giving 37 = .ok (.aload_n 0, 1) := by decide +kernel
theorem dX5_giving_38 : decode cX5_giving 38 = .ok (.iload_n 2, 1) := by decide +kernel
theorem dX5_giving_39 : decode cX5_giving 39 = .ok (.iload 5, 2) := by decide +kernel
theorem dX5_giving_41 : decode cX5_giving 41 = .ok (.invokevirtual 90, 3) := by decide +kernel
theorem dX5_giving_44 : decode cX5_giving 44 = .ok (.lmul, 1) := by decide +kernel
theorem dX5_giving_45 : decode cX5_giving 45 = .ok (.ladd, 1) := by decide +kernel
theorem dX5_giving_46 : decode cX5_giving 46 = .ok (.lstore_n 3, 1) := by decide +kernel
theorem dX5_giving_47 : decode cX5_giving 47 = .ok (.iinc 5 1, 3) := by decide +kernel
theorem dX5_giving_50 : decode cX5_giving 50 = .ok (.goto (-45), 3) := by decide +kernel
theorem dX5_giving_53 : decode cX5_giving 53 = .ok (.lload_n 3, 1) := by decide +kernel
theorem dX5_giving_54 : decode cX5_giving 54 = .ok (.lreturn, 1) := by decide +kernel
set_option maxRecDepth 20000 in
theorem ggX5_overOf_X5_overWithOne : GoodIn wsX5_overOf wsX5_overWithOne := goodIn_r _ [7, 8, 9, 2, 10, 11, 12, 13, 14, 15, 16, 22, 23, 24, 25, 26, 27, 28, 29, 30, 31, 32, 33, 34, 35, 36, 37, 38, 39, 40, 41, 42, 43, 44, 45, 46, 47] (by decide +kernel) (by decide +kernel)
set_option maxRecDepth 20000 in
theorem gX5_overOf_X5_overWithOne : GoodIn wsX5_overOf (wsV RX5 93 RX5 yX5_overWithOne wsX5_overWithOne) := goodIn_app (goodIn_of _ (by decide +kernel)) ggX5_overOf_X5_overWithOne
set_option maxRecDepth 20000 in
theorem ggX5_overOf_X5_overWithTwo : GoodIn wsX5_overOf wsX5_overWithTwo := goodIn_r _ [20, 8, 9, 2, 21, 11, 12, 13, 14, 15, 16, 22, 23, 24, 25, 26, 27, 28, 29, 30, 31, 32, 33, 34, 35, 36, 37, 38, 39, 40, 41, 42, 43, 44, 45, 46, 47] (by decide +kernel) (by decide +kernel)
set_option maxRecDepth 20000 in
theorem gX5_overOf_X5_overWithTwo : GoodIn wsX5_overOf (wsV RX5 97 RX5 yX5_overWithTwo wsX5_overWithTwo) := goodIn_app (goodIn_of _ (by decide +kernel)) ggX5_overOf_X5_overWithTwo
theorem dX5_overOf_0 : decode cX5_overOf 0 = .ok (.aload_n 0, 1) := by decide +kernel
theorem dX5_overOf_1 : decode cX5_overOf 1 = .ok (.getfield 31, 3) := by decide +kernel
theorem dX5_overOf_4 : decode cX5_overOf 4 = .ok (.ifCond .ne 10, 3) := by decide +kernel
theorem dX5_overOf_7 : decode cX5_overOf 7 = .ok (.aload_n 0, 1) := by decide +kernel
theorem dX5_overOf_8 : decode cX5_overOf 8 = .ok (.getfield 9, 3) := by decide +kernel
theorem dX5_overOf_11 : decode cX5_overOf 11 = .ok (.iload_n 1, 1) := by decide +kernel
theorem dX5_overOf_12 : decode cX5_overOf 12 = .ok (.laload, 1) := by decide +kernel
theorem dX5_overOf_13 : decode cX5_overOf 13 = .ok (.lreturn, 1) := by decide +kernel
theorem dX5_overOf_14 : decode cX5_overOf 14 = .ok (.aload_n 0, 1) := by decide +kernel
theorem dX5_overOf_15 : decode cX5_overOf 15 = .ok (.getfield 31, 3) := by decide +kernel
theorem dX5_overOf_18 : decode cX5_overOf 18 = .ok (.iconst 1, 1) := by decide +kernel
theorem dX5_overOf_19 : decode cX5_overOf 19 = .ok (.if_icmp .ne 11, 3) := by decide +kernel
theorem dX5_overOf_22 : decode cX5_overOf 22 = .ok (.aload_n 0, 1) := by decide +kernel
theorem dX5_overOf_23 : decode cX5_overOf 23 = .ok (.iload_n 1, 1) := by decide +kernel
theorem dX5_overOf_24 : decode cX5_overOf 24 = .ok (.invokevirtual 93, 3) := by decide +kernel
theorem dX5_overOf_27 : decode cX5_overOf 27 = .ok (.goto 8, 3) := by decide +kernel
theorem dX5_overOf_30 : decode cX5_overOf 30 = .ok (.aload_n 0, 1) := by decide +kernel
theorem dX5_overOf_31 : decode cX5_overOf 31 = .ok (.iload_n 1, 1) := by decide +kernel
theorem dX5_overOf_32 : decode cX5_overOf 32 = .ok (.invokevirtual 97, 3) := by decide +kernel
theorem dX5_overOf_35 : decode cX5_overOf 35 = .ok (.lreturn, 1) := by decide +kernel
theorem dX5_layUnit_0 : decode cX5_layUnit 0 = .ok (.iconst 0, 1) := by decide +kernel
theorem dX5_layUnit_1 : decode cX5_layUnit 1 = .ok (.istore_n 3, 1) := by decide +kernel
theorem dX5_layUnit_2 : decode cX5_layUnit 2 = .ok (.iload_n 3, 1) := by decide +kernel
theorem dX5_layUnit_3 : decode cX5_layUnit 3 = .ok (.bipush 11, 2) := by decide +kernel
theorem dX5_layUnit_5 : decode cX5_layUnit 5 = .ok (.if_icmp .ge 18, 3) := by decide +kernel
theorem dX5_layUnit_8 : decode cX5_layUnit 8 = .ok (.aload_n 0, 1) := by decide +kernel
theorem dX5_layUnit_9 : decode cX5_layUnit 9 = .ok (.getfield 17, 3) := by decide +kernel
theorem dX5_layUnit_12 : decode cX5_layUnit 12 = .ok (.iload_n 1, 1) := by decide +kernel
theorem dX5_layUnit_13 : decode cX5_layUnit 13 = .ok (.aaload, 1) := by decide +kernel
theorem dX5_layUnit_14 : decode cX5_layUnit 14 = .ok (.iload_n 3, 1) := by decide +kernel
theorem dX5_layUnit_15 : decode cX5_layUnit 15 = .ok (.lconst 0, 1) := by decide +kernel
theorem dX5_layUnit_16 : decode cX5_layUnit 16 = .ok (.lastore, 1) := by decide +kernel
theorem dX5_layUnit_17 : decode cX5_layUnit 17 = .ok (.iinc 3 1, 3) := by decide +kernel
theorem dX5_layUnit_20 : decode cX5_layUnit 20 = .ok (.goto (-18), 3) := by decide +kernel
theorem dX5_layUnit_23 : decode cX5_layUnit 23 = .ok (.iconst 0, 1) := by decide +kernel
theorem dX5_layUnit_24 : decode cX5_layUnit 24 = .ok (.istore_n 3, 1) := by decide +kernel
theorem dX5_layUnit_25 : decode cX5_layUnit 25 = .ok (.iload_n 3, 1) := by decide +kernel
theorem dX5_layUnit_26 : decode cX5_layUnit 26 = .ok (.aload_n 0, 1) := by decide +kernel
theorem dX5_layUnit_27 : decode cX5_layUnit 27 = .ok (.getfield 27, 3) := by decide +kernel
theorem dX5_layUnit_30 : decode cX5_layUnit 30 = .ok (.getfield 67, 3) := by decide +kernel
theorem dX5_layUnit_33 : decode cX5_layUnit 33 = .ok (.if_icmp .ge 37, 3) := by decide +kernel
theorem dX5_layUnit_36 : decode cX5_layUnit 36 = .ok (.aload_n 0, 1) := by decide +kernel
theorem dX5_layUnit_37 : decode cX5_layUnit 37 = .ok (.getfield 17, 3) := by decide +kernel
theorem dX5_layUnit_40 : decode cX5_layUnit 40 = .ok (.iload_n 1, 1) := by decide +kernel
theorem dX5_layUnit_41 : decode cX5_layUnit 41 = .ok (.aaload, 1) := by decide +kernel
theorem dX5_layUnit_42 : decode cX5_layUnit 42 = .ok (.aload_n 0, 1) := by decide +kernel
theorem dX5_layUnit_43 : decode cX5_layUnit 43 = .ok (.getfield 27, 3) := by decide +kernel
theorem dX5_layUnit_46 : decode cX5_layUnit 46 = .ok (.getfield 80, 3) := by decide +kernel
theorem dX5_layUnit_49 : decode cX5_layUnit 49 = .ok (.iload_n 3, 1) := by decide +kernel
theorem dX5_layUnit_50 : decode cX5_layUnit 50 = .ok (.iaload, 1) := by decide +kernel
theorem dX5_layUnit_51 : decode cX5_layUnit 51 = .ok (.aload_n 0, 1) := by decide +kernel
theorem dX5_layUnit_52 : decode cX5_layUnit 52 = .ok (.getfield 27, 3) := by decide +kernel
theorem dX5_layUnit_55 : decode cX5_layUnit 55 = .ok (.getfield 73, 3) := by decide +kernel
theorem dX5_layUnit_58 : decode cX5_layUnit 58 = .ok (.iload_n 3, 1) := by decide +kernel
theorem dX5_layUnit_59 : decode cX5_layUnit 59 = .ok (.aaload, 1) := by decide +kernel
theorem dX5_layUnit_60 : decode cX5_layUnit 60 = .ok (.iload_n 2, 1) := by decide +kernel
theorem dX5_layUnit_61 : decode cX5_layUnit 61 = .ok (.laload, 1) := by decide +kernel
theorem dX5_layUnit_62 : decode cX5_layUnit 62 = .ok (.lneg, 1) := by decide +kernel
theorem dX5_layUnit_63 : decode cX5_layUnit 63 = .ok (.lastore, 1) := by decide +kernel
theorem dX5_layUnit_64 : decode cX5_layUnit 64 = .ok (.iinc 3 1, 3) := by decide +kernel
theorem dX5_layUnit_67 : decode cX5_layUnit 67 = .ok (.goto (-42), 3) := by decide +kernel
theorem dX5_layUnit_70 : decode cX5_layUnit 70 = .ok (.aload_n 0, 1) := by decide +kernel
theorem dX5_layUnit_71 : decode cX5_layUnit 71 = .ok (.getfield 17, 3) := by decide +kernel
theorem dX5_layUnit_74 : decode cX5_layUnit 74 = .ok (.iload_n 1, 1) := by decide +kernel
theorem dX5_layUnit_75 : decode cX5_layUnit 75 = .ok (.aaload, 1) := by decide +kernel
theorem dX5_layUnit_76 : decode cX5_layUnit 76 = .ok (.iload_n 2, 1) := by decide +kernel
theorem dX5_layUnit_77 : decode cX5_layUnit 77 = .ok (.aload_n 0, 1) := by decide +kernel
theorem dX5_layUnit_78 : decode cX5_layUnit 78 = .ok (.getfield 27, 3) := by decide +kernel
theorem dX5_layUnit_81 : decode cX5_layUnit 81 = .ok (.getfield 53, 3) := by decide +kernel
theorem dX5_layUnit_84 : decode cX5_layUnit 84 = .ok (.lastore, 1) := by decide +kernel
theorem dX5_layUnit_85 : decode cX5_layUnit 85 = .ok (.return_, 1) := by decide +kernel
set_option maxRecDepth 20000 in
theorem ggX5_layPairs_X7_quotient : GoodIn wsX5_layPairs wsX7_quotient := goodIn_r _ [11] (by decide +kernel) (by decide +kernel)
set_option maxRecDepth 20000 in
theorem gX5_layPairs_X7_quotient_n100 : GoodIn wsX5_layPairs (wsX7_quotient) := ggX5_layPairs_X7_quotient
theorem dX5_layPairs_0 : decode cX5_layPairs 0 = .ok (.aload_n 0, 1) := by decide +kernel
theorem dX5_layPairs_1 : decode cX5_layPairs 1 = .ok (.lconst 0, 1) := by decide +kernel
theorem dX5_layPairs_2 : decode cX5_layPairs 2 = .ok (.putfield 57, 3) := by decide +kernel
theorem dX5_layPairs_5 : decode cX5_layPairs 5 = .ok (.iconst 0, 1) := by decide +kernel
theorem dX5_layPairs_6 : decode cX5_layPairs 6 = .ok (.istore_n 1, 1) := by decide +kernel
theorem dX5_layPairs_7 : decode cX5_layPairs 7 = .ok (.iload_n 1, 1) := by decide +kernel
theorem dX5_layPairs_8 : decode cX5_layPairs 8 = .ok (.aload_n 0, 1) := by decide +kernel
theorem dX5_layPairs_9 : decode cX5_layPairs 9 = .ok (.getfield 23, 3) := by decide +kernel
theorem dX5_layPairs_12 : decode cX5_layPairs 12 = .ok (.getfield 35, 3) := by decide +kernel
theorem dX5_layPairs_15 : decode cX5_layPairs 15 = .ok (.if_icmp .ge 135, 3) := by decide +kernel
theorem dX5_layPairs_18 : decode cX5_layPairs 18 = .ok (.iconst 0, 1) := by decide +kernel
theorem dX5_layPairs_19 : decode cX5_layPairs 19 = .ok (.istore_n 2, 1) := by decide +kernel
theorem dX5_layPairs_20 : decode cX5_layPairs 20 = .ok (.iload_n 2, 1) := by decide +kernel
theorem dX5_layPairs_21 : decode cX5_layPairs 21 = .ok (.aload_n 0, 1) := by decide +kernel
theorem dX5_layPairs_22 : decode cX5_layPairs 22 = .ok (.getfield 23, 3) := by decide +kernel
theorem dX5_layPairs_25 : decode cX5_layPairs 25 = .ok (.getfield 35, 3) := by decide +kernel
theorem dX5_layPairs_28 : decode cX5_layPairs 28 = .ok (.if_icmp .ge 116, 3) := by decide +kernel
theorem dX5_layPairs_31 : decode cX5_layPairs 31 = .ok (.aload_n 0, 1) := by decide +kernel
theorem dX5_layPairs_32 : decode cX5_layPairs 32 = .ok (.getfield 17, 3) := by decide +kernel
theorem dX5_layPairs_35 : decode cX5_layPairs 35 = .ok (.iconst 0, 1) := by decide +kernel
theorem dX5_layPairs_36 : decode cX5_layPairs 36 = .ok (.aaload, 1) := by decide +kernel
theorem dX5_layPairs_37 : decode cX5_layPairs 37 = .ok (.iload_n 1, 1) := by decide +kernel
theorem dX5_layPairs_38 : decode cX5_layPairs 38 = .ok (.laload, 1) := by decide +kernel
theorem dX5_layPairs_39 : decode cX5_layPairs 39 = .ok (.aload_n 0, 1) := by decide +kernel
theorem dX5_layPairs_40 : decode cX5_layPairs 40 = .ok (.getfield 17, 3) := by decide +kernel
theorem dX5_layPairs_43 : decode cX5_layPairs 43 = .ok (.iconst 1, 1) := by decide +kernel
theorem dX5_layPairs_44 : decode cX5_layPairs 44 = .ok (.aaload, 1) := by decide +kernel
theorem dX5_layPairs_45 : decode cX5_layPairs 45 = .ok (.iload_n 2, 1) := by decide +kernel
theorem dX5_layPairs_46 : decode cX5_layPairs 46 = .ok (.laload, 1) := by decide +kernel
theorem dX5_layPairs_47 : decode cX5_layPairs 47 = .ok (.lmul, 1) := by decide +kernel
theorem dX5_layPairs_48 : decode cX5_layPairs 48 = .ok (.aload_n 0, 1) := by decide +kernel
theorem dX5_layPairs_49 : decode cX5_layPairs 49 = .ok (.getfield 17, 3) := by decide +kernel
theorem dX5_layPairs_52 : decode cX5_layPairs 52 = .ok (.iconst 0, 1) := by decide +kernel
theorem dX5_layPairs_53 : decode cX5_layPairs 53 = .ok (.aaload, 1) := by decide +kernel
theorem dX5_layPairs_54 : decode cX5_layPairs 54 = .ok (.iload_n 2, 1) := by decide +kernel
theorem dX5_layPairs_55 : decode cX5_layPairs 55 = .ok (.laload, 1) := by decide +kernel
theorem dX5_layPairs_56 : decode cX5_layPairs 56 = .ok (.aload_n 0, 1) := by decide +kernel
theorem dX5_layPairs_57 : decode cX5_layPairs 57 = .ok (.getfield 17, 3) := by decide +kernel
theorem dX5_layPairs_60 : decode cX5_layPairs 60 = .ok (.iconst 1, 1) := by decide +kernel
theorem dX5_layPairs_61 : decode cX5_layPairs 61 = .ok (.aaload, 1) := by decide +kernel
theorem dX5_layPairs_62 : decode cX5_layPairs 62 = .ok (.iload_n 1, 1) := by decide +kernel
theorem dX5_layPairs_63 : decode cX5_layPairs 63 = .ok (.laload, 1) := by decide +kernel
theorem dX5_layPairs_64 : decode cX5_layPairs 64 = .ok (.lmul, 1) := by decide +kernel
theorem dX5_layPairs_65 : decode cX5_layPairs 65 = .ok (.lsub, 1) := by decide +kernel
theorem dX5_layPairs_66 : decode cX5_layPairs 66 = .ok (.lstore_n 3, 1) := by decide +kernel
theorem dX5_layPairs_67 : decode cX5_layPairs 67 = .ok (.aload_n 0, 1) := by decide +kernel
theorem dX5_layPairs_68 : decode cX5_layPairs 68 = .ok (.getfield 20, 3) := by decide +kernel
theorem dX5_layPairs_71 : decode cX5_layPairs 71 = .ok (.iload_n 1, 1) := by decide +kernel
theorem dX5_layPairs_72 : decode cX5_layPairs 72 = .ok (.aaload, 1) := by decide +kernel
theorem dX5_layPairs_73 : decode cX5_layPairs 73 = .ok (.iload_n 2, 1) := by decide +kernel
theorem dX5_layPairs_74 : decode cX5_layPairs 74 = .ok (.lload_n 3, 1) := by decide +kernel
theorem dX5_layPairs_75 : decode cX5_layPairs 75 = .ok (.aload_n 0, 1) := by decide +kernel
theorem dX5_layPairs_76 : decode cX5_layPairs 76 = .ok (.getfield 27, 3) := by decide +kernel
theorem dX5_layPairs_79 : decode cX5_layPairs 79 = .ok (.getfield 53, 3) := by decide +kernel
theorem dX5_layPairs_82 : decode cX5_layPairs 82 = .ok (.invokestatic 100, 3) := by decide +kernel
theorem dX5_layPairs_85 : decode cX5_layPairs 85 = .ok (.lastore, 1) := by decide +kernel
theorem dX5_layPairs_86 : decode cX5_layPairs 86 = .ok (.iload_n 1, 1) := by decide +kernel
theorem dX5_layPairs_87 : decode cX5_layPairs 87 = .ok (.iload_n 2, 1) := by decide +kernel
theorem dX5_layPairs_88 : decode cX5_layPairs 88 = .ok (.if_icmp .ge 50, 3) := by decide +kernel
theorem dX5_layPairs_91 : decode cX5_layPairs 91 = .ok (.aload_n 0, 1) := by decide +kernel
theorem dX5_layPairs_92 : decode cX5_layPairs 92 = .ok (.dup, 1) := by decide +kernel
theorem dX5_layPairs_93 : decode cX5_layPairs 93 = .ok (.getfield 57, 3) := by decide +kernel
theorem dX5_layPairs_96 : decode cX5_layPairs 96 = .ok (.aload_n 0, 1) := by decide +kernel
theorem dX5_layPairs_97 : decode cX5_layPairs 97 = .ok (.getfield 23, 3) := by decide +kernel
theorem dX5_layPairs_100 : decode cX5_layPairs 100 = .ok (.getfield 87, 3) := by decide +kernel
theorem dX5_layPairs_103 : decode cX5_layPairs 103 = .ok (.iload_n 1, 1) := by decide +kernel
theorem dX5_layPairs_104 : decode cX5_layPairs 104 = .ok (.iaload, 1) := by decide +kernel
theorem dX5_layPairs_105 : decode cX5_layPairs 105 = .ok (.aload_n 0, 1) := by decide +kernel
theorem dX5_layPairs_106 : decode cX5_layPairs 106 = .ok (.getfield 23, 3) := by decide +kernel
theorem dX5_layPairs_109 : decode cX5_layPairs 109 = .ok (.getfield 87, 3) := by decide +kernel
theorem dX5_layPairs_112 : decode cX5_layPairs 112 = .ok (.iload_n 2, 1) := by decide +kernel
theorem dX5_layPairs_113 : decode cX5_layPairs 113 = .ok (.iaload, 1) := by decide +kernel
theorem dX5_layPairs_114 : decode cX5_layPairs 114 = .ok (.imul, 1) := by decide +kernel
theorem dX5_layPairs_115 : decode cX5_layPairs 115 = .ok (.i2l, 1) := by decide +kernel
theorem dX5_layPairs_116 : decode cX5_layPairs 116 = .ok (.aload_n 0, 1) := by decide +kernel
theorem dX5_layPairs_117 : decode cX5_layPairs 117 = .ok (.getfield 20, 3) := by decide +kernel
theorem dX5_layPairs_120 : decode cX5_layPairs 120 = .ok (.iload_n 1, 1) := by decide +kernel
theorem dX5_layPairs_121 : decode cX5_layPairs 121 = .ok (.aaload, 1) := by decide +kernel
theorem dX5_layPairs_122 : decode cX5_layPairs 122 = .ok (.iload_n 2, 1) := by decide +kernel
theorem dX5_layPairs_123 : decode cX5_layPairs 123 = .ok (.laload, 1) := by decide +kernel
theorem dX5_layPairs_124 : decode cX5_layPairs 124 = .ok (.lmul, 1) := by decide +kernel
theorem dX5_layPairs_125 : decode cX5_layPairs 125 = .ok (.aload_n 0, 1) := by decide +kernel
theorem dX5_layPairs_126 : decode cX5_layPairs 126 = .ok (.getfield 20, 3) := by decide +kernel
theorem dX5_layPairs_129 : decode cX5_layPairs 129 = .ok (.iload_n 1, 1) := by decide +kernel
theorem dX5_layPairs_130 : decode cX5_layPairs 130 = .ok (.aaload, 1) := by decide +kernel
theorem dX5_layPairs_131 : decode cX5_layPairs 131 = .ok (.iload_n 2, 1) := by decide +kernel
theorem dX5_layPairs_132 : decode cX5_layPairs 132 = .ok (.laload, 1) := by decide +kernel
theorem dX5_layPairs_133 : decode cX5_layPairs 133 = .ok (.lmul, 1) := by decide +kernel
theorem dX5_layPairs_134 : decode cX5_layPairs 134 = .ok (.ladd, 1) := by decide +kernel
theorem dX5_layPairs_135 : decode cX5_layPairs 135 = .ok (.putfield 57, 3) := by decide +kernel
theorem dX5_layPairs_138 : decode cX5_layPairs 138 = .ok (.iinc 2 1, 3) := by decide +kernel
theorem dX5_layPairs_141 : decode cX5_layPairs 141 = .ok (.goto (-121), 3) := by decide +kernel
theorem dX5_layPairs_144 : decode cX5_layPairs 144 = .ok (.iinc 1 1, 3) := by decide +kernel
theorem dX5_layPairs_147 : decode cX5_layPairs 147 = .ok (.goto (-140), 3) := by decide +kernel
theorem dX5_layPairs_150 : decode cX5_layPairs 150 = .ok (.return_, 1) := by decide +kernel
set_option maxRecDepth 20000 in
theorem ggX5_overWithOne_X7_quotient : GoodIn wsX5_overWithOne wsX7_quotient := goodIn_r _ [10] (by decide +kernel) (by decide +kernel)
set_option maxRecDepth 20000 in
theorem gX5_overWithOne_X7_quotient_n100 : GoodIn wsX5_overWithOne (wsX7_quotient) := ggX5_overWithOne_X7_quotient
theorem dX5_overWithOne_0 : decode cX5_overWithOne 0 = .ok (.lconst 0, 1) := by decide +kernel
theorem dX5_overWithOne_1 : decode cX5_overWithOne 1 = .ok (.lstore_n 2, 1) := by decide +kernel
theorem dX5_overWithOne_2 : decode cX5_overWithOne 2 = .ok (.iconst 0, 1) := by decide +kernel
theorem dX5_overWithOne_3 : decode cX5_overWithOne 3 = .ok (.istore 4, 2) := by decide +kernel
theorem dX5_overWithOne_5 : decode cX5_overWithOne 5 = .ok (.iload 4, 2) := by decide +kernel
theorem dX5_overWithOne_7 : decode cX5_overWithOne 7 = .ok (.aload_n 0, 1) := by decide +kernel
theorem dX5_overWithOne_8 : decode cX5_overWithOne 8 = .ok (.getfield 23, 3) := by decide +kernel
theorem dX5_overWithOne_11 : decode cX5_overWithOne 11 = .ok (.getfield 35, 3) := by decide +kernel
theorem dX5_overWithOne_14 : decode cX5_overWithOne 14 = .ok (.if_icmp .ge 85, 3) := by decide +kernel
theorem dX5_overWithOne_17 : decode cX5_overWithOne 17 = .ok (.aload_n 0, 1) := by decide +kernel
theorem dX5_overWithOne_18 : decode cX5_overWithOne 18 = .ok (.getfield 9, 3) := by decide +kernel
theorem dX5_overWithOne_21 : decode cX5_overWithOne 21 = .ok (.iload_n 1, 1) := by decide +kernel
theorem dX5_overWithOne_22 : decode cX5_overWithOne 22 = .ok (.laload, 1) := by decide +kernel
theorem dX5_overWithOne_23 : decode cX5_overWithOne 23 = .ok (.aload_n 0, 1) := by decide +kernel
theorem dX5_overWithOne_24 : decode cX5_overWithOne 24 = .ok (.getfield 17, 3) := by decide +kernel
theorem dX5_overWithOne_27 : decode cX5_overWithOne 27 = .ok (.iconst 0, 1) := by decide +kernel
theorem dX5_overWithOne_28 : decode cX5_overWithOne 28 = .ok (.aaload, 1) := by decide +kernel
theorem dX5_overWithOne_29 : decode cX5_overWithOne 29 = .ok (.iload 4, 2) := by decide +kernel
theorem dX5_overWithOne_31 : decode cX5_overWithOne 31 = .ok (.laload, 1) := by decide +kernel
theorem dX5_overWithOne_32 : decode cX5_overWithOne 32 = .ok (.lmul, 1) := by decide +kernel
theorem dX5_overWithOne_33 : decode cX5_overWithOne 33 = .ok (.aload_n 0, 1) := by decide +kernel
theorem dX5_overWithOne_34 : decode cX5_overWithOne 34 = .ok (.getfield 9, 3) := by decide +kernel
theorem dX5_overWithOne_37 : decode cX5_overWithOne 37 = .ok (.iload 4, 2) := by decide +kernel
theorem dX5_overWithOne_39 : decode cX5_overWithOne 39 = .ok (.laload, 1) := by decide +kernel
theorem dX5_overWithOne_40 : decode cX5_overWithOne 40 = .ok (.aload_n 0, 1) := by decide +kernel
theorem dX5_overWithOne_41 : decode cX5_overWithOne 41 = .ok (.getfield 17, 3) := by decide +kernel
theorem dX5_overWithOne_44 : decode cX5_overWithOne 44 = .ok (.iconst 0, 1) := by decide +kernel
theorem dX5_overWithOne_45 : decode cX5_overWithOne 45 = .ok (.aaload, 1) := by decide +kernel
theorem dX5_overWithOne_46 : decode cX5_overWithOne 46 = .ok (.iload_n 1, 1) := by decide +kernel
theorem dX5_overWithOne_47 : decode cX5_overWithOne 47 = .ok (.laload, 1) := by decide +kernel
theorem dX5_overWithOne_48 : decode cX5_overWithOne 48 = .ok (.lmul, 1) := by decide +kernel
theorem dX5_overWithOne_49 : decode cX5_overWithOne 49 = .ok (.lsub, 1) := by decide +kernel
theorem dX5_overWithOne_50 : decode cX5_overWithOne 50 = .ok (.lstore 5, 2) := by decide +kernel
theorem dX5_overWithOne_52 : decode cX5_overWithOne 52 = .ok (.lload 5, 2) := by decide +kernel
theorem dX5_overWithOne_54 : decode cX5_overWithOne 54 = .ok (.aload_n 0, 1) := by decide +kernel
theorem dX5_overWithOne_55 : decode cX5_overWithOne 55 = .ok (.getfield 27, 3) := by decide +kernel
theorem dX5_overWithOne_58 : decode cX5_overWithOne 58 = .ok (.getfield 53, 3) := by decide +kernel
theorem dX5_overWithOne_61 : decode cX5_overWithOne 61 = .ok (.invokestatic 100, 3) := by decide +kernel
theorem dX5_overWithOne_64 : decode cX5_overWithOne 64 = .ok (.lstore 7, 2) := by decide +kernel
theorem dX5_overWithOne_66 : decode cX5_overWithOne 66 = .ok (.lload_n 2, 1) := by decide +kernel
theorem dX5_overWithOne_67 : decode cX5_overWithOne 67 = .ok (.aload_n 0, 1) := by decide +kernel
theorem dX5_overWithOne_68 : decode cX5_overWithOne 68 = .ok (.getfield 23, 3) := by decide +kernel
theorem dX5_overWithOne_71 : decode cX5_overWithOne 71 = .ok (.getfield 87, 3) := by decide +kernel
theorem dX5_overWithOne_74 : decode cX5_overWithOne 74 = .ok (.iload 4, 2) := by decide +kernel
theorem dX5_overWithOne_76 : decode cX5_overWithOne 76 = .ok (.iaload, 1) := by decide +kernel
theorem dX5_overWithOne_77 : decode cX5_overWithOne 77 = .ok (.i2l, 1) := by decide +kernel
theorem dX5_overWithOne_78 : decode cX5_overWithOne 78 = .ok (.aload_n 0, 1) := by decide +kernel
theorem dX5_overWithOne_79 : decode cX5_overWithOne 79 = .ok (.getfield 17, 3) := by decide +kernel
theorem dX5_overWithOne_82 : decode cX5_overWithOne 82 = .ok (.iconst 0, 1) := by decide +kernel
theorem dX5_overWithOne_83 : decode cX5_overWithOne 83 = .ok (.aaload, 1) := by decide +kernel
theorem dX5_overWithOne_84 : decode cX5_overWithOne 84 = .ok (.iload 4, 2) := by decide +kernel
theorem dX5_overWithOne_86 : decode cX5_overWithOne 86 = .ok (.laload, 1) := by decide +kernel
theorem dX5_overWithOne_87 : decode cX5_overWithOne 87 = .ok (.lmul, 1) := by decide +kernel
theorem dX5_overWithOne_88 : decode cX5_overWithOne 88 = .ok (.lload 7, 2) := by decide +kernel
theorem dX5_overWithOne_90 : decode cX5_overWithOne 90 = .ok (.lmul, 1) := by decide +kernel
theorem dX5_overWithOne_91 : decode cX5_overWithOne 91 = .ok (.ladd, 1) := by decide +kernel
theorem dX5_overWithOne_92 : decode cX5_overWithOne 92 = .ok (.lstore_n 2, 1) := by decide +kernel
theorem dX5_overWithOne_93 : decode cX5_overWithOne 93 = .ok (.iinc 4 1, 3) := by decide +kernel
theorem dX5_overWithOne_96 : decode cX5_overWithOne 96 = .ok (.goto (-91), 3) := by decide +kernel
theorem dX5_overWithOne_99 : decode cX5_overWithOne 99 = .ok (.lload_n 2, 1) := by decide +kernel
theorem dX5_overWithOne_100 : decode cX5_overWithOne 100 = .ok (.lreturn, 1) := by decide +kernel
set_option maxRecDepth 20000 in
theorem ggX5_overWithTwo_X7_quotient : GoodIn wsX5_overWithTwo wsX7_quotient := goodIn_r _ [10] (by decide +kernel) (by decide +kernel)
set_option maxRecDepth 20000 in
theorem gX5_overWithTwo_X7_quotient_n100 : GoodIn wsX5_overWithTwo (wsX7_quotient) := ggX5_overWithTwo_X7_quotient
theorem dX5_overWithTwo_0 : decode cX5_overWithTwo 0 = .ok (.lconst 0, 1) := by decide +kernel
theorem dX5_overWithTwo_1 : decode cX5_overWithTwo 1 = .ok (.lstore_n 2, 1) := by decide +kernel
theorem dX5_overWithTwo_2 : decode cX5_overWithTwo 2 = .ok (.iconst 0, 1) := by decide +kernel
theorem dX5_overWithTwo_3 : decode cX5_overWithTwo 3 = .ok (.istore 4, 2) := by decide +kernel
theorem dX5_overWithTwo_5 : decode cX5_overWithTwo 5 = .ok (.iload 4, 2) := by decide +kernel
theorem dX5_overWithTwo_7 : decode cX5_overWithTwo 7 = .ok (.aload_n 0, 1) := by decide +kernel
theorem dX5_overWithTwo_8 : decode cX5_overWithTwo 8 = .ok (.getfield 23, 3) := by decide +kernel
theorem dX5_overWithTwo_11 : decode cX5_overWithTwo 11 = .ok (.getfield 35, 3) := by decide +kernel
theorem dX5_overWithTwo_14 : decode cX5_overWithTwo 14 = .ok (.if_icmp .ge 141, 3) := by decide +kernel
theorem dX5_overWithTwo_17 : decode cX5_overWithTwo 17 = .ok (.iload 4, 2) := by decide +kernel
theorem dX5_overWithTwo_19 : decode cX5_overWithTwo 19 = .ok (.iconst 1, 1) := by decide +kernel
theorem dX5_overWithTwo_20 : decode cX5_overWithTwo 20 = .ok (.iadd, 1) := by decide +kernel
theorem dX5_overWithTwo_21 : decode cX5_overWithTwo 21 = .ok (.istore 5, 2) := by decide +kernel
theorem dX5_overWithTwo_23 : decode cX5_overWithTwo 23 = .ok (.iload 5, 2) := by decide +kernel
theorem dX5_overWithTwo_25 : decode cX5_overWithTwo 25 = .ok (.aload_n 0, 1) := by decide +kernel
theorem dX5_overWithTwo_26 : decode cX5_overWithTwo 26 = .ok (.getfield 23, 3) := by decide +kernel
theorem dX5_overWithTwo_29 : decode cX5_overWithTwo 29 = .ok (.getfield 35, 3) := by decide +kernel
theorem dX5_overWithTwo_32 : decode cX5_overWithTwo 32 = .ok (.if_icmp .ge 117, 3) := by decide +kernel
theorem dX5_overWithTwo_35 : decode cX5_overWithTwo 35 = .ok (.aload_n 0, 1) := by decide +kernel
theorem dX5_overWithTwo_36 : decode cX5_overWithTwo 36 = .ok (.getfield 9, 3) := by decide +kernel
theorem dX5_overWithTwo_39 : decode cX5_overWithTwo 39 = .ok (.iload_n 1, 1) := by decide +kernel
theorem dX5_overWithTwo_40 : decode cX5_overWithTwo 40 = .ok (.laload, 1) := by decide +kernel
theorem dX5_overWithTwo_41 : decode cX5_overWithTwo 41 = .ok (.aload_n 0, 1) := by decide +kernel
theorem dX5_overWithTwo_42 : decode cX5_overWithTwo 42 = .ok (.getfield 20, 3) := by decide +kernel
theorem dX5_overWithTwo_45 : decode cX5_overWithTwo 45 = .ok (.iload 4, 2) := by decide +kernel
theorem dX5_overWithTwo_47 : decode cX5_overWithTwo 47 = .ok (.aaload, 1) := by decide +kernel
theorem dX5_overWithTwo_48 : decode cX5_overWithTwo 48 = .ok (.iload 5, 2) := by decide +kernel
theorem dX5_overWithTwo_50 : decode cX5_overWithTwo 50 = .ok (.laload, 1) := by decide +kernel
theorem dX5_overWithTwo_51 : decode cX5_overWithTwo 51 = .ok (.lmul, 1) := by decide +kernel
theorem dX5_overWithTwo_52 : decode cX5_overWithTwo 52 = .ok (.aload_n 0, 1) := by decide +kernel
theorem dX5_overWithTwo_53 : decode cX5_overWithTwo 53 = .ok (.getfield 9, 3) := by decide +kernel
theorem dX5_overWithTwo_56 : decode cX5_overWithTwo 56 = .ok (.iload 4, 2) := by decide +kernel
theorem dX5_overWithTwo_58 : decode cX5_overWithTwo 58 = .ok (.laload, 1) := by decide +kernel
theorem dX5_overWithTwo_59 : decode cX5_overWithTwo 59 = .ok (.aload_n 0, 1) := by decide +kernel
theorem dX5_overWithTwo_60 : decode cX5_overWithTwo 60 = .ok (.getfield 20, 3) := by decide +kernel
theorem dX5_overWithTwo_63 : decode cX5_overWithTwo 63 = .ok (.iload_n 1, 1) := by decide +kernel
theorem dX5_overWithTwo_64 : decode cX5_overWithTwo 64 = .ok (.aaload, 1) := by decide +kernel
theorem dX5_overWithTwo_65 : decode cX5_overWithTwo 65 = .ok (.iload 5, 2) := by decide +kernel
theorem dX5_overWithTwo_67 : decode cX5_overWithTwo 67 = .ok (.laload, 1) := by decide +kernel
theorem dX5_overWithTwo_68 : decode cX5_overWithTwo 68 = .ok (.lmul, 1) := by decide +kernel
theorem dX5_overWithTwo_69 : decode cX5_overWithTwo 69 = .ok (.lsub, 1) := by decide +kernel
theorem dX5_overWithTwo_70 : decode cX5_overWithTwo 70 = .ok (.aload_n 0, 1) := by decide +kernel
theorem dX5_overWithTwo_71 : decode cX5_overWithTwo 71 = .ok (.getfield 9, 3) := by decide +kernel
theorem dX5_overWithTwo_74 : decode cX5_overWithTwo 74 = .ok (.iload 5, 2) := by decide +kernel
theorem dX5_overWithTwo_76 : decode cX5_overWithTwo 76 = .ok (.laload, 1) := by decide +kernel
theorem dX5_overWithTwo_77 : decode cX5_overWithTwo 77 = .ok (.aload_n 0, 1) := by decide +kernel
theorem dX5_overWithTwo_78 : decode cX5_overWithTwo 78 = .ok (.getfield 20, 3) := by decide +kernel
theorem dX5_overWithTwo_81 : decode cX5_overWithTwo 81 = .ok (.iload_n 1, 1) := by decide +kernel
theorem dX5_overWithTwo_82 : decode cX5_overWithTwo 82 = .ok (.aaload, 1) := by decide +kernel
theorem dX5_overWithTwo_83 : decode cX5_overWithTwo 83 = .ok (.iload 4, 2) := by decide +kernel
theorem dX5_overWithTwo_85 : decode cX5_overWithTwo 85 = .ok (.laload, 1) := by decide +kernel
theorem dX5_overWithTwo_86 : decode cX5_overWithTwo 86 = .ok (.lmul, 1) := by decide +kernel
theorem dX5_overWithTwo_87 : decode cX5_overWithTwo 87 = .ok (.ladd, 1) := by decide +kernel
theorem dX5_overWithTwo_88 : decode cX5_overWithTwo 88 = .ok (.lstore 6, 2) := by decide +kernel
theorem dX5_overWithTwo_90 : decode cX5_overWithTwo 90 = .ok (.lload 6, 2) := by decide +kernel
theorem dX5_overWithTwo_92 : decode cX5_overWithTwo 92 = .ok (.aload_n 0, 1) := by decide +kernel
theorem dX5_overWithTwo_93 : decode cX5_overWithTwo 93 = .ok (.getfield 27, 3) := by decide +kernel
theorem dX5_overWithTwo_96 : decode cX5_overWithTwo 96 = .ok (.getfield 53, 3) := by decide +kernel
theorem dX5_overWithTwo_99 : decode cX5_overWithTwo 99 = .ok (.invokestatic 100, 3) := by decide +kernel
theorem dX5_overWithTwo_102 : decode cX5_overWithTwo 102 = .ok (.lstore 8, 2) := by decide +kernel
theorem dX5_overWithTwo_104 : decode cX5_overWithTwo 104 = .ok (.lload_n 2, 1) := by decide +kernel
theorem dX5_overWithTwo_105 : decode cX5_overWithTwo 105 = .ok (.aload_n 0, 1) := by decide +kernel
theorem dX5_overWithTwo_106 : decode cX5_overWithTwo 106 = .ok (.getfield 23, 3) := by decide +kernel
theorem dX5_overWithTwo_109 : decode cX5_overWithTwo 109 = .ok (.getfield 87, 3) := by decide +kernel
theorem dX5_overWithTwo_112 : decode cX5_overWithTwo 112 = .ok (.iload 4, 2) := by decide +kernel
theorem dX5_overWithTwo_114 : decode cX5_overWithTwo 114 = .ok (.iaload, 1) := by decide +kernel
theorem dX5_overWithTwo_115 : decode cX5_overWithTwo 115 = .ok (.aload_n 0, 1) := by decide +kernel
theorem dX5_overWithTwo_116 : decode cX5_overWithTwo 116 = .ok (.getfield 23, 3) := by decide +kernel
theorem dX5_overWithTwo_119 : decode cX5_overWithTwo 119 = .ok (.getfield 87, 3) := by decide +kernel
theorem dX5_overWithTwo_122 : decode cX5_overWithTwo 122 = .ok (.iload 5, 2) := by decide +kernel
theorem dX5_overWithTwo_124 : decode cX5_overWithTwo 124 = .ok (.iaload, 1) := by decide +kernel
theorem dX5_overWithTwo_125 : decode cX5_overWithTwo 125 = .ok (.imul, 1) := by decide +kernel
theorem dX5_overWithTwo_126 : decode cX5_overWithTwo 126 = .ok (.i2l, 1) := by decide +kernel
theorem dX5_overWithTwo_127 : decode cX5_overWithTwo 127 = .ok (.aload_n 0, 1) := by decide +kernel
theorem dX5_overWithTwo_128 : decode cX5_overWithTwo 128 = .ok (.getfield 20, 3) := by decide +kernel
theorem dX5_overWithTwo_131 : decode cX5_overWithTwo 131 = .ok (.iload 4, 2) := by decide +kernel
theorem dX5_overWithTwo_133 : decode cX5_overWithTwo 133 = .ok (.aaload, 1) := by decide +kernel
theorem dX5_overWithTwo_134 : decode cX5_overWithTwo 134 = .ok (.iload 5, 2) := by decide +kernel
theorem dX5_overWithTwo_136 : decode cX5_overWithTwo 136 = .ok (.laload, 1) := by decide +kernel
theorem dX5_overWithTwo_137 : decode cX5_overWithTwo 137 = .ok (.lmul, 1) := by decide +kernel
theorem dX5_overWithTwo_138 : decode cX5_overWithTwo 138 = .ok (.lload 8, 2) := by decide +kernel
theorem dX5_overWithTwo_140 : decode cX5_overWithTwo 140 = .ok (.lmul, 1) := by decide +kernel
theorem dX5_overWithTwo_141 : decode cX5_overWithTwo 141 = .ok (.ladd, 1) := by decide +kernel
theorem dX5_overWithTwo_142 : decode cX5_overWithTwo 142 = .ok (.lstore_n 2, 1) := by decide +kernel
theorem dX5_overWithTwo_143 : decode cX5_overWithTwo 143 = .ok (.iinc 5 1, 3) := by decide +kernel
theorem dX5_overWithTwo_146 : decode cX5_overWithTwo 146 = .ok (.goto (-123), 3) := by decide +kernel
theorem dX5_overWithTwo_149 : decode cX5_overWithTwo 149 = .ok (.iinc 4 1, 3) := by decide +kernel
theorem dX5_overWithTwo_152 : decode cX5_overWithTwo 152 = .ok (.goto (-147), 3) := by decide +kernel
theorem dX5_overWithTwo_155 : decode cX5_overWithTwo 155 = .ok (.lload_n 2, 1) := by decide +kernel
theorem dX5_overWithTwo_156 : decode cX5_overWithTwo 156 = .ok (.lreturn, 1) := by decide +kernel
theorem dX6_init_0 : decode cX6_init 0 = .ok (.aload_n 0, 1) := by decide +kernel
theorem dX6_init_1 : decode cX6_init 1 = .ok (.invokespecial 3, 3) := by decide +kernel
theorem dX6_init_4 : decode cX6_init 4 = .ok (.aload_n 0, 1) := by decide +kernel
theorem dX6_init_5 : decode cX6_init 5 = .ok (.bipush 6, 2) := by decide +kernel
theorem dX6_init_7 : decode cX6_init 7 = .ok (.newarray .int, 2) := by decide +kernel
theorem dX6_init_9 : decode cX6_init 9 = .ok (.putfield 9, 3) := by decide +kernel
theorem dX6_init_12 : decode cX6_init 12 = .ok (.aload_n 0, 1) := by decide +kernel
theorem dX6_init_13 : decode cX6_init 13 = .ok (.iconst 4, 1) := by decide +kernel
theorem dX6_init_14 : decode cX6_init 14 = .ok (.newarray .int, 2) := by decide +kernel
theorem dX6_init_16 : decode cX6_init 16 = .ok (.putfield 15, 3) := by decide +kernel
theorem dX6_init_19 : decode cX6_init 19 = .ok (.aload_n 0, 1) := by decide +kernel
theorem dX6_init_20 : decode cX6_init 20 = .ok (.bipush 12, 2) := by decide +kernel
theorem dX6_init_22 : decode cX6_init 22 = .ok (.newarray .int, 2) := by decide +kernel
theorem dX6_init_24 : decode cX6_init 24 = .ok (.putfield 18, 3) := by decide +kernel
theorem dX6_init_27 : decode cX6_init 27 = .ok (.return_, 1) := by decide +kernel
