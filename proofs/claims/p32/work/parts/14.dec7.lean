set_option maxRecDepth 20000 in
theorem ggX7_init_X3_init : GoodIn wsX7_init wsX3_init := goodIn_r _ [33, 34, 2, 3, 35, 36, 37, 38, 39, 40, 41, 42, 43, 87, 88, 89, 90, 91, 92, 93, 94, 95, 96] (by decide +kernel) (by decide +kernel)
set_option maxRecDepth 20000 in
theorem gX7_init_X3_init_n11 : GoodIn wsX7_init (wsX3_init) := ggX7_init_X3_init
set_option maxRecDepth 20000 in
theorem ggX7_init_X0_init : GoodIn wsX7_init wsX0_init := goodIn_r _ [46, 47, 2, 3, 48, 49, 50, 35, 51, 52, 53, 97, 98, 99, 100, 101, 102, 103, 104, 105] (by decide +kernel) (by decide +kernel)
set_option maxRecDepth 20000 in
theorem gX7_init_X0_init : GoodIn wsX7_init (wsX0_init) := ggX7_init_X0_init
set_option maxRecDepth 20000 in
theorem ggX7_init_X5_init : GoodIn wsX7_init wsX5_init := goodIn_r _ [56, 57, 2, 3, 49, 58, 59, 60, 61, 62, 63, 113, 114, 115, 116, 117, 118, 119] (by decide +kernel) (by decide +kernel)
set_option maxRecDepth 20000 in
theorem gX7_init_X5_init : GoodIn wsX7_init (wsX5_init) := ggX7_init_X5_init
set_option maxRecDepth 20000 in
theorem ggX7_init_X4_init : GoodIn wsX7_init wsX4_init := goodIn_r _ [66, 67, 2, 3, 35, 68, 69, 120, 121, 122, 123] (by decide +kernel) (by decide +kernel)
set_option maxRecDepth 20000 in
theorem gX7_init_X4_init : GoodIn wsX7_init (wsX4_init) := ggX7_init_X4_init
set_option maxRecDepth 20000 in
theorem ggX7_init_X1_init : GoodIn wsX7_init wsX1_init := goodIn_r _ [72, 73, 2, 3, 35, 74, 75, 49, 76, 77, 124, 125, 126, 127, 128] (by decide +kernel) (by decide +kernel)
set_option maxRecDepth 20000 in
theorem gX7_init_X1_init : GoodIn wsX7_init (wsX1_init) := ggX7_init_X1_init
set_option maxRecDepth 20000 in
theorem ggX7_init_X6_init : GoodIn wsX7_init wsX6_init := goodIn_r _ [79, 80, 2, 3, 35, 81, 82, 83, 129, 130, 131, 132, 133] (by decide +kernel) (by decide +kernel)
set_option maxRecDepth 20000 in
theorem gX7_init_X6_init_n50 : GoodIn wsX7_init (wsX6_init) := ggX7_init_X6_init
set_option maxRecDepth 20000 in
theorem ggX7_init_X2_init : GoodIn wsX7_init wsX2_init := goodIn_r _ [85, 86, 2, 3] (by decide +kernel) (by decide +kernel)
set_option maxRecDepth 20000 in
theorem gX7_init_X2_init_n57 : GoodIn wsX7_init (wsX2_init) := ggX7_init_X2_init
theorem dX7_init_0 : decode cX7_init 0 = .ok (.aload_n 0, 1) := by decide +kernel
theorem dX7_init_1 : decode cX7_init 1 = .ok (.invokespecial 3, 3) := by decide +kernel
theorem dX7_init_4 : decode cX7_init 4 = .ok (.new 9, 3) := by decide +kernel
theorem dX7_init_7 : decode cX7_init 7 = .ok (.dup, 1) := by decide +kernel
theorem dX7_init_8 : decode cX7_init 8 = .ok (.invokespecial 11, 3) := by decide +kernel
theorem dX7_init_11 : decode cX7_init 11 = .ok (.astore_n 1, 1) := by decide +kernel
theorem dX7_init_12 : decode cX7_init 12 = .ok (.new 12, 3) := by decide +kernel
theorem dX7_init_15 : decode cX7_init 15 = .ok (.dup, 1) := by decide +kernel
theorem dX7_init_16 : decode cX7_init 16 = .ok (.aload_n 1, 1) := by decide +kernel
theorem dX7_init_17 : decode cX7_init 17 = .ok (.invokespecial 14, 3) := by decide +kernel
theorem dX7_init_20 : decode cX7_init 20 = .ok (.astore_n 2, 1) := by decide +kernel
theorem dX7_init_21 : decode cX7_init 21 = .ok (.aload_n 0, 1) := by decide +kernel
theorem dX7_init_22 : decode cX7_init 22 = .ok (.aload_n 1, 1) := by decide +kernel
theorem dX7_init_23 : decode cX7_init 23 = .ok (.putfield 17, 3) := by decide +kernel
theorem dX7_init_26 : decode cX7_init 26 = .ok (.aload_n 0, 1) := by decide +kernel
theorem dX7_init_27 : decode cX7_init 27 = .ok (.aload_n 2, 1) := by decide +kernel
theorem dX7_init_28 : decode cX7_init 28 = .ok (.putfield 21, 3) := by decide +kernel
theorem dX7_init_31 : decode cX7_init 31 = .ok (.aload_n 0, 1) := by decide +kernel
theorem dX7_init_32 : decode cX7_init 32 = .ok (.new 25, 3) := by decide +kernel
theorem dX7_init_35 : decode cX7_init 35 = .ok (.dup, 1) := by decide +kernel
theorem dX7_init_36 : decode cX7_init 36 = .ok (.aload_n 1, 1) := by decide +kernel
theorem dX7_init_37 : decode cX7_init 37 = .ok (.aload_n 2, 1) := by decide +kernel
theorem dX7_init_38 : decode cX7_init 38 = .ok (.invokespecial 27, 3) := by decide +kernel
theorem dX7_init_41 : decode cX7_init 41 = .ok (.putfield 30, 3) := by decide +kernel
theorem dX7_init_44 : decode cX7_init 44 = .ok (.aload_n 0, 1) := by decide +kernel
theorem dX7_init_45 : decode cX7_init 45 = .ok (.new 34, 3) := by decide +kernel
theorem dX7_init_48 : decode cX7_init 48 = .ok (.dup, 1) := by decide +kernel
theorem dX7_init_49 : decode cX7_init 49 = .ok (.aload_n 1, 1) := by decide +kernel
theorem dX7_init_50 : decode cX7_init 50 = .ok (.invokespecial 36, 3) := by decide +kernel
theorem dX7_init_53 : decode cX7_init 53 = .ok (.putfield 37, 3) := by decide +kernel
theorem dX7_init_56 : decode cX7_init 56 = .ok (.aload_n 0, 1) := by decide +kernel
theorem dX7_init_57 : decode cX7_init 57 = .ok (.new 41, 3) := by decide +kernel
theorem dX7_init_60 : decode cX7_init 60 = .ok (.dup, 1) := by decide +kernel
theorem dX7_init_61 : decode cX7_init 61 = .ok (.aload_n 1, 1) := by decide +kernel
theorem dX7_init_62 : decode cX7_init 62 = .ok (.invokespecial 43, 3) := by decide +kernel
theorem dX7_init_65 : decode cX7_init 65 = .ok (.putfield 44, 3) := by decide +kernel
theorem dX7_init_68 : decode cX7_init 68 = .ok (.aload_n 0, 1) := by decide +kernel
theorem dX7_init_69 : decode cX7_init 69 = .ok (.new 48, 3) := by decide +kernel
theorem dX7_init_72 : decode cX7_init 72 = .ok (.dup, 1) := by decide +kernel
theorem dX7_init_73 : decode cX7_init 73 = .ok (.invokespecial 50, 3) := by decide +kernel
theorem dX7_init_76 : decode cX7_init 76 = .ok (.putfield 51, 3) := by decide +kernel
theorem dX7_init_79 : decode cX7_init 79 = .ok (.aload_n 0, 1) := by decide +kernel
theorem dX7_init_80 : decode cX7_init 80 = .ok (.new 55, 3) := by decide +kernel
theorem dX7_init_83 : decode cX7_init 83 = .ok (.dup, 1) := by decide +kernel
theorem dX7_init_84 : decode cX7_init 84 = .ok (.invokespecial 57, 3) := by decide +kernel
theorem dX7_init_87 : decode cX7_init 87 = .ok (.putfield 58, 3) := by decide +kernel
theorem dX7_init_90 : decode cX7_init 90 = .ok (.return_, 1) := by decide +kernel
set_option maxRecDepth 20000 in
theorem ggX7_pin_X7_isFreePlace : GoodIn wsX7_pin wsX7_isFreePlace := goodIn_r _ [7, 1, 8, 9, 10, 11, 12, 13, 14, 19, 20, 21, 22, 23, 24, 25, 26, 27, 28, 29, 30, 31, 32, 33, 34, 35] (by decide +kernel) (by decide +kernel)
set_option maxRecDepth 20000 in
theorem gX7_pin_X7_isFreePlace : GoodIn wsX7_pin (wsV RX7 66 RX7 yX7_isFreePlace wsX7_isFreePlace) := goodIn_app (goodIn_of _ (by decide +kernel)) ggX7_pin_X7_isFreePlace
set_option maxRecDepth 20000 in
theorem ggX7_pin_X3_put : GoodIn wsX7_pin wsX3_put := goodIn_r _ [18, 14, 26, 27, 28, 29, 30, 31, 32, 33, 34, 35] (by decide +kernel) (by decide +kernel)
set_option maxRecDepth 20000 in
theorem gX7_pin_X3_put : GoodIn wsX7_pin (wsV RX7 70 RX3 yX3_put wsX3_put) := goodIn_app (goodIn_of _ (by decide +kernel)) ggX7_pin_X3_put
theorem dX7_pin_0 : decode cX7_pin 0 = .ok (.aload_n 0, 1) := by decide +kernel
theorem dX7_pin_1 : decode cX7_pin 1 = .ok (.getfield 17, 3) := by decide +kernel
theorem dX7_pin_4 : decode cX7_pin 4 = .ok (.getfield 62, 3) := by decide +kernel
theorem dX7_pin_7 : decode cX7_pin 7 = .ok (.bipush 6, 2) := by decide +kernel
theorem dX7_pin_9 : decode cX7_pin 9 = .ok (.if_icmp .ge 12, 3) := by decide +kernel
theorem dX7_pin_12 : decode cX7_pin 12 = .ok (.aload_n 0, 1) := by decide +kernel
theorem dX7_pin_13 : decode cX7_pin 13 = .ok (.iload_n 1, 1) := by decide +kernel
theorem dX7_pin_14 : decode cX7_pin 14 = .ok (.iload_n 2, 1) := by decide +kernel
theorem dX7_pin_15 : decode cX7_pin 15 = .ok (.invokevirtual 66, 3) := by decide +kernel
theorem dX7_pin_18 : decode cX7_pin 18 = .ok (.ifCond .ne 5, 3) := by decide +kernel
theorem dX7_pin_21 : decode cX7_pin 21 = .ok (.iconst (-1), 1) := by decide +kernel
theorem dX7_pin_22 : decode cX7_pin 22 = .ok (.ireturn, 1) := by decide +kernel
theorem dX7_pin_23 : decode cX7_pin 23 = .ok (.aload_n 0, 1) := by decide +kernel
theorem dX7_pin_24 : decode cX7_pin 24 = .ok (.getfield 17, 3) := by decide +kernel
theorem dX7_pin_27 : decode cX7_pin 27 = .ok (.getfield 62, 3) := by decide +kernel
theorem dX7_pin_30 : decode cX7_pin 30 = .ok (.istore_n 3, 1) := by decide +kernel
theorem dX7_pin_31 : decode cX7_pin 31 = .ok (.aload_n 0, 1) := by decide +kernel
theorem dX7_pin_32 : decode cX7_pin 32 = .ok (.getfield 17, 3) := by decide +kernel
theorem dX7_pin_35 : decode cX7_pin 35 = .ok (.dup, 1) := by decide +kernel
theorem dX7_pin_36 : decode cX7_pin 36 = .ok (.getfield 62, 3) := by decide +kernel
theorem dX7_pin_39 : decode cX7_pin 39 = .ok (.iconst 1, 1) := by decide +kernel
theorem dX7_pin_40 : decode cX7_pin 40 = .ok (.iadd, 1) := by decide +kernel
theorem dX7_pin_41 : decode cX7_pin 41 = .ok (.putfield 62, 3) := by decide +kernel
theorem dX7_pin_44 : decode cX7_pin 44 = .ok (.aload_n 0, 1) := by decide +kernel
theorem dX7_pin_45 : decode cX7_pin 45 = .ok (.getfield 17, 3) := by decide +kernel
theorem dX7_pin_48 : decode cX7_pin 48 = .ok (.iload_n 3, 1) := by decide +kernel
theorem dX7_pin_49 : decode cX7_pin 49 = .ok (.iload_n 1, 1) := by decide +kernel
theorem dX7_pin_50 : decode cX7_pin 50 = .ok (.iload_n 2, 1) := by decide +kernel
theorem dX7_pin_51 : decode cX7_pin 51 = .ok (.invokevirtual 70, 3) := by decide +kernel
theorem dX7_pin_54 : decode cX7_pin 54 = .ok (.iload_n 3, 1) := by decide +kernel
theorem dX7_pin_55 : decode cX7_pin 55 = .ok (.ireturn, 1) := by decide +kernel
set_option maxRecDepth 20000 in
theorem ggX7_bar_X3_isPin : GoodIn wsX7_bar wsX3_isPin := goodIn_r _ [7, 8, 34, 35, 36, 37, 38, 39, 40, 41, 42, 43] (by decide +kernel) (by decide +kernel)
set_option maxRecDepth 20000 in
theorem gX7_bar_X3_isPin : GoodIn wsX7_bar (wsV RX7 74 RX3 yX3_isPin wsX3_isPin) := goodIn_app (goodIn_of _ (by decide +kernel)) ggX7_bar_X3_isPin
set_option maxRecDepth 20000 in
theorem ggX7_bar_X7_isGive : GoodIn wsX7_bar wsX7_isGive := goodIn_r _ [12] (by decide +kernel) (by decide +kernel)
set_option maxRecDepth 20000 in
theorem gX7_bar_X7_isGive : GoodIn wsX7_bar (va_wsS RX7 81 yX7_isGive wsX7_isGive) := goodIn_app (goodIn_of _ (by decide +kernel)) ggX7_bar_X7_isGive
set_option maxRecDepth 20000 in
theorem ggX7_bar_X3_hasBar : GoodIn wsX7_bar wsX3_hasBar := goodIn_r _ [16, 17, 18, 19, 34, 35, 36, 37, 38, 39, 40, 41, 42, 43] (by decide +kernel) (by decide +kernel)
set_option maxRecDepth 20000 in
theorem gX7_bar_X3_hasBar : GoodIn wsX7_bar (wsV RX7 84 RX3 yX3_hasBar wsX3_hasBar) := goodIn_app (goodIn_of _ (by decide +kernel)) ggX7_bar_X3_hasBar
set_option maxRecDepth 20000 in
theorem ggX7_bar_X3_addBar : GoodIn wsX7_bar wsX3_addBar := goodIn_r _ [23, 17, 18, 19, 24, 25, 26, 34, 35, 36, 37, 38, 39, 40, 41, 42, 43] (by decide +kernel) (by decide +kernel)
set_option maxRecDepth 20000 in
theorem gX7_bar_X3_addBar : GoodIn wsX7_bar (wsV RX7 87 RX3 yX3_addBar wsX3_addBar) := goodIn_app (goodIn_of _ (by decide +kernel)) ggX7_bar_X3_addBar
theorem dX7_bar_0 : decode cX7_bar 0 = .ok (.aload_n 0, 1) := by decide +kernel
theorem dX7_bar_1 : decode cX7_bar 1 = .ok (.getfield 17, 3) := by decide +kernel
theorem dX7_bar_4 : decode cX7_bar 4 = .ok (.getfield 78, 3) := by decide +kernel
theorem dX7_bar_7 : decode cX7_bar 7 = .ok (.bipush 11, 2) := by decide +kernel
theorem dX7_bar_9 : decode cX7_bar 9 = .ok (.if_icmp .ge 34, 3) := by decide +kernel
theorem dX7_bar_12 : decode cX7_bar 12 = .ok (.aload_n 0, 1) := by decide +kernel
theorem dX7_bar_13 : decode cX7_bar 13 = .ok (.getfield 17, 3) := by decide +kernel
theorem dX7_bar_16 : decode cX7_bar 16 = .ok (.iload_n 1, 1) := by decide +kernel
theorem dX7_bar_17 : decode cX7_bar 17 = .ok (.invokevirtual 74, 3) := by decide +kernel
theorem dX7_bar_20 : decode cX7_bar 20 = .ok (.ifCond .eq 23, 3) := by decide +kernel
theorem dX7_bar_23 : decode cX7_bar 23 = .ok (.aload_n 0, 1) := by decide +kernel
theorem dX7_bar_24 : decode cX7_bar 24 = .ok (.getfield 17, 3) := by decide +kernel
theorem dX7_bar_27 : decode cX7_bar 27 = .ok (.iload_n 2, 1) := by decide +kernel
theorem dX7_bar_28 : decode cX7_bar 28 = .ok (.invokevirtual 74, 3) := by decide +kernel
theorem dX7_bar_31 : decode cX7_bar 31 = .ok (.ifCond .eq 12, 3) := by decide +kernel
theorem dX7_bar_34 : decode cX7_bar 34 = .ok (.iload_n 1, 1) := by decide +kernel
theorem dX7_bar_35 : decode cX7_bar 35 = .ok (.iload_n 2, 1) := by decide +kernel
theorem dX7_bar_36 : decode cX7_bar 36 = .ok (.if_icmp .eq 7, 3) := by decide +kernel
theorem dX7_bar_39 : decode cX7_bar 39 = .ok (.iconst 1, 1) := by decide +kernel
theorem dX7_bar_40 : decode cX7_bar 40 = .ok (.goto 4, 3) := by decide +kernel
theorem dX7_bar_43 : decode cX7_bar 43 = .ok (.iconst 0, 1) := by decide +kernel
theorem dX7_bar_44 : decode cX7_bar 44 = .ok (.istore 4, 2) := by decide +kernel
theorem dX7_bar_46 : decode cX7_bar 46 = .ok (.iload 4, 2) := by decide +kernel
theorem dX7_bar_48 : decode cX7_bar 48 = .ok (.ifCond .eq 22, 3) := by decide +kernel
theorem dX7_bar_51 : decode cX7_bar 51 = .ok (.iload_n 3, 1) := by decide +kernel
theorem dX7_bar_52 : decode cX7_bar 52 = .ok (.invokestatic 81, 3) := by decide +kernel
theorem dX7_bar_55 : decode cX7_bar 55 = .ok (.ifCond .eq 15, 3) := by decide +kernel
theorem dX7_bar_58 : decode cX7_bar 58 = .ok (.aload_n 0, 1) := by decide +kernel
theorem dX7_bar_59 : decode cX7_bar 59 = .ok (.getfield 17, 3) := by decide +kernel
theorem dX7_bar_62 : decode cX7_bar 62 = .ok (.iload_n 1, 1) := by decide +kernel
theorem dX7_bar_63 : decode cX7_bar 63 = .ok (.iload_n 2, 1) := by decide +kernel
theorem dX7_bar_64 : decode cX7_bar 64 = .ok (.invokevirtual 84, 3) := by decide +kernel
theorem dX7_bar_67 : decode cX7_bar 67 = .ok (.ifCond .eq 5, 3) := by decide +kernel
theorem dX7_bar_70 : decode cX7_bar 70 = .ok (.iconst (-1), 1) := by decide +kernel
theorem dX7_bar_71 : decode cX7_bar 71 = .ok (.ireturn, 1) := by decide +kernel
theorem dX7_bar_72 : decode cX7_bar 72 = .ok (.aload_n 0, 1) := by decide +kernel
theorem dX7_bar_73 : decode cX7_bar 73 = .ok (.getfield 17, 3) := by decide +kernel
theorem dX7_bar_76 : decode cX7_bar 76 = .ok (.iload_n 1, 1) := by decide +kernel
theorem dX7_bar_77 : decode cX7_bar 77 = .ok (.iload_n 2, 1) := by decide +kernel
theorem dX7_bar_78 : decode cX7_bar 78 = .ok (.iload_n 3, 1) := by decide +kernel
theorem dX7_bar_79 : decode cX7_bar 79 = .ok (.invokevirtual 87, 3) := by decide +kernel
theorem dX7_bar_82 : decode cX7_bar 82 = .ok (.ireturn, 1) := by decide +kernel
set_option maxRecDepth 20000 in
theorem ggX7_turn_X3_isBar : GoodIn wsX7_turn wsX3_isBar := goodIn_r _ [7, 8, 25, 26, 27, 28, 29, 30, 31, 32, 33, 34] (by decide +kernel) (by decide +kernel)
set_option maxRecDepth 20000 in
theorem gX7_turn_X3_isBar : GoodIn wsX7_turn (wsV RX7 91 RX3 yX3_isBar wsX3_isBar) := goodIn_app (goodIn_of _ (by decide +kernel)) ggX7_turn_X3_isBar
set_option maxRecDepth 20000 in
theorem ggX7_turn_X3_isOn : GoodIn wsX7_turn wsX3_isOn := goodIn_r _ [12, 13, 14, 4, 5, 6, 7, 8, 15, 16, 17, 25, 26, 27, 28, 29, 30, 31, 32, 33, 34] (by decide +kernel) (by decide +kernel)
set_option maxRecDepth 20000 in
theorem gX7_turn_X3_isOn : GoodIn wsX7_turn (wsV RX7 94 RX3 yX3_isOn wsX3_isOn) := goodIn_app (goodIn_of _ (by decide +kernel)) ggX7_turn_X3_isOn
theorem dX7_turn_0 : decode cX7_turn 0 = .ok (.aload_n 0, 1) := by decide +kernel
theorem dX7_turn_1 : decode cX7_turn 1 = .ok (.getfield 17, 3) := by decide +kernel
theorem dX7_turn_4 : decode cX7_turn 4 = .ok (.iload_n 1, 1) := by decide +kernel
theorem dX7_turn_5 : decode cX7_turn 5 = .ok (.invokevirtual 91, 3) := by decide +kernel
theorem dX7_turn_8 : decode cX7_turn 8 = .ok (.ifCond .eq 15, 3) := by decide +kernel
theorem dX7_turn_11 : decode cX7_turn 11 = .ok (.aload_n 0, 1) := by decide +kernel
theorem dX7_turn_12 : decode cX7_turn 12 = .ok (.getfield 17, 3) := by decide +kernel
theorem dX7_turn_15 : decode cX7_turn 15 = .ok (.iload_n 1, 1) := by decide +kernel
theorem dX7_turn_16 : decode cX7_turn 16 = .ok (.invokevirtual 94, 3) := by decide +kernel
theorem dX7_turn_19 : decode cX7_turn 19 = .ok (.iload_n 2, 1) := by decide +kernel
theorem dX7_turn_20 : decode cX7_turn 20 = .ok (.if_icmp .ne 5, 3) := by decide +kernel
theorem dX7_turn_23 : decode cX7_turn 23 = .ok (.iconst 0, 1) := by decide +kernel
theorem dX7_turn_24 : decode cX7_turn 24 = .ok (.ireturn, 1) := by decide +kernel
theorem dX7_turn_25 : decode cX7_turn 25 = .ok (.aload_n 0, 1) := by decide +kernel
theorem dX7_turn_26 : decode cX7_turn 26 = .ok (.getfield 17, 3) := by decide +kernel
theorem dX7_turn_29 : decode cX7_turn 29 = .ok (.dup, 1) := by decide +kernel
theorem dX7_turn_30 : decode cX7_turn 30 = .ok (.getfield 97, 3) := by decide +kernel
theorem dX7_turn_33 : decode cX7_turn 33 = .ok (.iconst 1, 1) := by decide +kernel
theorem dX7_turn_34 : decode cX7_turn 34 = .ok (.iload_n 1, 1) := by decide +kernel
theorem dX7_turn_35 : decode cX7_turn 35 = .ok (.ishl, 1) := by decide +kernel
theorem dX7_turn_36 : decode cX7_turn 36 = .ok (.ixor, 1) := by decide +kernel
theorem dX7_turn_37 : decode cX7_turn 37 = .ok (.putfield 97, 3) := by decide +kernel
theorem dX7_turn_40 : decode cX7_turn 40 = .ok (.iconst 1, 1) := by decide +kernel
theorem dX7_turn_41 : decode cX7_turn 41 = .ok (.ireturn, 1) := by decide +kernel
set_option maxRecDepth 20000 in
theorem ggX7_hold_X3_isPin : GoodIn wsX7_hold wsX3_isPin := goodIn_r _ [7, 8, 20, 21, 22, 23, 24, 25, 26, 27, 28, 29] (by decide +kernel) (by decide +kernel)
set_option maxRecDepth 20000 in
theorem gX7_hold_X3_isPin : GoodIn wsX7_hold (wsV RX7 74 RX3 yX3_isPin wsX3_isPin) := goodIn_app (goodIn_of _ (by decide +kernel)) ggX7_hold_X3_isPin
set_option maxRecDepth 20000 in
theorem ggX7_hold_X7_isDirection : GoodIn wsX7_hold wsX7_isDirection := goodIn_r _ [12] (by decide +kernel) (by decide +kernel)
set_option maxRecDepth 20000 in
theorem gX7_hold_X7_isDirection : GoodIn wsX7_hold (va_wsS RX7 107 yX7_isDirection wsX7_isDirection) := goodIn_app (goodIn_of _ (by decide +kernel)) ggX7_hold_X7_isDirection
theorem dX7_hold_0 : decode cX7_hold 0 = .ok (.aload_n 0, 1) := by decide +kernel
theorem dX7_hold_1 : decode cX7_hold 1 = .ok (.getfield 17, 3) := by decide +kernel
theorem dX7_hold_4 : decode cX7_hold 4 = .ok (.iload_n 1, 1) := by decide +kernel
theorem dX7_hold_5 : decode cX7_hold 5 = .ok (.invokevirtual 74, 3) := by decide +kernel
theorem dX7_hold_8 : decode cX7_hold 8 = .ok (.ifCond .eq 10, 3) := by decide +kernel
theorem dX7_hold_11 : decode cX7_hold 11 = .ok (.iload_n 2, 1) := by decide +kernel
theorem dX7_hold_12 : decode cX7_hold 12 = .ok (.invokestatic 107, 3) := by decide +kernel
theorem dX7_hold_15 : decode cX7_hold 15 = .ok (.ifCond .ne 5, 3) := by decide +kernel
theorem dX7_hold_18 : decode cX7_hold 18 = .ok (.iconst 0, 1) := by decide +kernel
theorem dX7_hold_19 : decode cX7_hold 19 = .ok (.ireturn, 1) := by decide +kernel
theorem dX7_hold_20 : decode cX7_hold 20 = .ok (.iconst 2, 1) := by decide +kernel
theorem dX7_hold_21 : decode cX7_hold 21 = .ok (.iload_n 1, 1) := by decide +kernel
theorem dX7_hold_22 : decode cX7_hold 22 = .ok (.imul, 1) := by decide +kernel
theorem dX7_hold_23 : decode cX7_hold 23 = .ok (.iload_n 2, 1) := by decide +kernel
theorem dX7_hold_24 : decode cX7_hold 24 = .ok (.iadd, 1) := by decide +kernel
theorem dX7_hold_25 : decode cX7_hold 25 = .ok (.istore 4, 2) := by decide +kernel
theorem dX7_hold_27 : decode cX7_hold 27 = .ok (.aload_n 0, 1) := by decide +kernel
theorem dX7_hold_28 : decode cX7_hold 28 = .ok (.getfield 17, 3) := by decide +kernel
theorem dX7_hold_31 : decode cX7_hold 31 = .ok (.getfield 110, 3) := by decide +kernel
theorem dX7_hold_34 : decode cX7_hold 34 = .ok (.iload 4, 2) := by decide +kernel
theorem dX7_hold_36 : decode cX7_hold 36 = .ok (.baload, 1) := by decide +kernel
theorem dX7_hold_37 : decode cX7_hold 37 = .ok (.iload_n 3, 1) := by decide +kernel
theorem dX7_hold_38 : decode cX7_hold 38 = .ok (.if_icmp .ne 5, 3) := by decide +kernel
theorem dX7_hold_41 : decode cX7_hold 41 = .ok (.iconst 0, 1) := by decide +kernel
theorem dX7_hold_42 : decode cX7_hold 42 = .ok (.ireturn, 1) := by decide +kernel
theorem dX7_hold_43 : decode cX7_hold 43 = .ok (.aload_n 0, 1) := by decide +kernel
theorem dX7_hold_44 : decode cX7_hold 44 = .ok (.getfield 17, 3) := by decide +kernel
theorem dX7_hold_47 : decode cX7_hold 47 = .ok (.getfield 110, 3) := by decide +kernel
theorem dX7_hold_50 : decode cX7_hold 50 = .ok (.iload 4, 2) := by decide +kernel
theorem dX7_hold_52 : decode cX7_hold 52 = .ok (.iload_n 3, 1) := by decide +kernel
theorem dX7_hold_53 : decode cX7_hold 53 = .ok (.bastore, 1) := by decide +kernel
theorem dX7_hold_54 : decode cX7_hold 54 = .ok (.iconst 1, 1) := by decide +kernel
theorem dX7_hold_55 : decode cX7_hold 55 = .ok (.ireturn, 1) := by decide +kernel
set_option maxRecDepth 20000 in
theorem ggX7_load_X3_isPin : GoodIn wsX7_load wsX3_isPin := goodIn_r _ [7, 8, 20, 21, 22, 23, 24, 25, 26, 27, 28, 29] (by decide +kernel) (by decide +kernel)
set_option maxRecDepth 20000 in
theorem gX7_load_X3_isPin : GoodIn wsX7_load (wsV RX7 74 RX3 yX3_isPin wsX3_isPin) := goodIn_app (goodIn_of _ (by decide +kernel)) ggX7_load_X3_isPin
set_option maxRecDepth 20000 in
theorem ggX7_load_X7_isLoad : GoodIn wsX7_load wsX7_isLoad := goodIn_r _ [12] (by decide +kernel) (by decide +kernel)
set_option maxRecDepth 20000 in
theorem gX7_load_X7_isLoad : GoodIn wsX7_load (va_wsS RX7 114 yX7_isLoad wsX7_isLoad) := goodIn_app (goodIn_of _ (by decide +kernel)) ggX7_load_X7_isLoad
theorem dX7_load_0 : decode cX7_load 0 = .ok (.aload_n 0, 1) := by decide +kernel
theorem dX7_load_1 : decode cX7_load 1 = .ok (.getfield 17, 3) := by decide +kernel
theorem dX7_load_4 : decode cX7_load 4 = .ok (.iload_n 1, 1) := by decide +kernel
theorem dX7_load_5 : decode cX7_load 5 = .ok (.invokevirtual 74, 3) := by decide +kernel
theorem dX7_load_8 : decode cX7_load 8 = .ok (.ifCond .eq 17, 3) := by decide +kernel
theorem dX7_load_11 : decode cX7_load 11 = .ok (.iload_n 2, 1) := by decide +kernel
theorem dX7_load_12 : decode cX7_load 12 = .ok (.invokestatic 114, 3) := by decide +kernel
theorem dX7_load_15 : decode cX7_load 15 = .ok (.ifCond .eq 10, 3) := by decide +kernel
theorem dX7_load_18 : decode cX7_load 18 = .ok (.iload_n 3, 1) := by decide +kernel
theorem dX7_load_19 : decode cX7_load 19 = .ok (.invokestatic 114, 3) := by decide +kernel
theorem dX7_load_22 : decode cX7_load 22 = .ok (.ifCond .ne 5, 3) := by decide +kernel
theorem dX7_load_25 : decode cX7_load 25 = .ok (.iconst 0, 1) := by decide +kernel
theorem dX7_load_26 : decode cX7_load 26 = .ok (.ireturn, 1) := by decide +kernel
theorem dX7_load_27 : decode cX7_load 27 = .ok (.aload_n 0, 1) := by decide +kernel
theorem dX7_load_28 : decode cX7_load 28 = .ok (.getfield 17, 3) := by decide +kernel
theorem dX7_load_31 : decode cX7_load 31 = .ok (.getfield 117, 3) := by decide +kernel
theorem dX7_load_34 : decode cX7_load 34 = .ok (.iconst 2, 1) := by decide +kernel
theorem dX7_load_35 : decode cX7_load 35 = .ok (.iload_n 1, 1) := by decide +kernel
theorem dX7_load_36 : decode cX7_load 36 = .ok (.imul, 1) := by decide +kernel
theorem dX7_load_37 : decode cX7_load 37 = .ok (.iload_n 2, 1) := by decide +kernel
theorem dX7_load_38 : decode cX7_load 38 = .ok (.iastore, 1) := by decide +kernel
theorem dX7_load_39 : decode cX7_load 39 = .ok (.aload_n 0, 1) := by decide +kernel
theorem dX7_load_40 : decode cX7_load 40 = .ok (.getfield 17, 3) := by decide +kernel
theorem dX7_load_43 : decode cX7_load 43 = .ok (.getfield 117, 3) := by decide +kernel
theorem dX7_load_46 : decode cX7_load 46 = .ok (.iconst 2, 1) := by decide +kernel
theorem dX7_load_47 : decode cX7_load 47 = .ok (.iload_n 1, 1) := by decide +kernel
theorem dX7_load_48 : decode cX7_load 48 = .ok (.imul, 1) := by decide +kernel
theorem dX7_load_49 : decode cX7_load 49 = .ok (.iconst 1, 1) := by decide +kernel
theorem dX7_load_50 : decode cX7_load 50 = .ok (.iadd, 1) := by decide +kernel
theorem dX7_load_51 : decode cX7_load 51 = .ok (.iload_n 3, 1) := by decide +kernel
theorem dX7_load_52 : decode cX7_load 52 = .ok (.iastore, 1) := by decide +kernel
theorem dX7_load_53 : decode cX7_load 53 = .ok (.iconst 1, 1) := by decide +kernel
theorem dX7_load_54 : decode cX7_load 54 = .ok (.ireturn, 1) := by decide +kernel
set_option maxRecDepth 20000 in
theorem ggX7_count_X4_follow : GoodIn wsX7_count wsX4_follow := goodIn_r _ [14, 15, 16, 17, 18, 19, 13, 20, 21, 22, 23, 24, 25, 26, 27, 28, 29, 30, 31, 32, 33, 34, 35, 36, 37, 38, 39, 40, 41, 42, 43, 44, 45, 46, 47, 48, 49, 50, 51, 52, 53, 54, 55, 56, 57, 58, 59, 60, 61, 146, 147, 148, 149, 131, 132, 133, 134, 135, 136, 137, 138, 139, 140] (by decide +kernel) (by decide +kernel)
set_option maxRecDepth 20000 in
theorem gX7_count_X4_follow : GoodIn wsX7_count (wsV RX7 131 RX4 yX4_follow wsX4_follow) := goodIn_app (goodIn_of _ (by decide +kernel)) ggX7_count_X4_follow
set_option maxRecDepth 20000 in
theorem ggX7_count_X7_countOfBalance : GoodIn wsX7_count wsX7_countOfBalance := goodIn_r _ [65, 66, 1, 4, 67, 68, 69, 70, 71, 72, 73, 74, 75, 76, 77, 78, 79, 80, 81, 82, 83, 84, 85, 86, 87, 88, 89, 90, 91, 92, 93, 94, 95, 54, 55, 27, 56, 57, 32, 31, 96, 97, 98, 99, 33, 34, 35, 100, 101, 102, 103, 104, 105, 106, 107, 108, 109, 110, 111, 112, 113, 114, 115, 116, 117, 118, 119, 120, 121, 122, 123, 42, 43, 44, 45, 46, 47, 124, 125, 126, 127, 128, 129, 130, 131, 132, 133, 134, 135, 136, 137, 138, 139, 140, 150, 151, 152, 153, 154, 155, 156, 157, 158] (by decide +kernel) (by decide +kernel)
set_option maxRecDepth 20000 in
theorem gX7_count_X7_countOfBalance : GoodIn wsX7_count (wsV RX7 137 RX7 yX7_countOfBalance wsX7_countOfBalance) := goodIn_app (goodIn_of _ (by decide +kernel)) ggX7_count_X7_countOfBalance
theorem dX7_count_0 : decode cX7_count 0 = .ok (.iload_n 1, 1) := by decide +kernel
theorem dX7_count_1 : decode cX7_count 1 = .ok (.tableswitch 114 0 10 #[59, 67, 75, 114, 114, 114, 114, 114, 83, 91, 99], 59) := by decide +kernel
theorem dX7_count_60 : decode cX7_count 60 = .ok (.aload_n 0, 1) := by decide +kernel
theorem dX7_count_61 : decode cX7_count 61 = .ok (.getfield 17, 3) := by decide +kernel
theorem dX7_count_64 : decode cX7_count 64 = .ok (.getfield 62, 3) := by decide +kernel
theorem dX7_count_67 : decode cX7_count 67 = .ok (.ireturn, 1) := by decide +kernel
theorem dX7_count_68 : decode cX7_count 68 = .ok (.aload_n 0, 1) := by decide +kernel
theorem dX7_count_69 : decode cX7_count 69 = .ok (.getfield 17, 3) := by decide +kernel
theorem dX7_count_72 : decode cX7_count 72 = .ok (.getfield 78, 3) := by decide +kernel
theorem dX7_count_75 : decode cX7_count 75 = .ok (.ireturn, 1) := by decide +kernel
theorem dX7_count_76 : decode cX7_count 76 = .ok (.aload_n 0, 1) := by decide +kernel
theorem dX7_count_77 : decode cX7_count 77 = .ok (.getfield 17, 3) := by decide +kernel
theorem dX7_count_80 : decode cX7_count 80 = .ok (.getfield 97, 3) := by decide +kernel
theorem dX7_count_83 : decode cX7_count 83 = .ok (.ireturn, 1) := by decide +kernel
theorem dX7_count_84 : decode cX7_count 84 = .ok (.aload_n 0, 1) := by decide +kernel
theorem dX7_count_85 : decode cX7_count 85 = .ok (.getfield 51, 3) := by decide +kernel
theorem dX7_count_88 : decode cX7_count 88 = .ok (.getfield 124, 3) := by decide +kernel
theorem dX7_count_91 : decode cX7_count 91 = .ok (.ireturn, 1) := by decide +kernel
theorem dX7_count_92 : decode cX7_count 92 = .ok (.aload_n 0, 1) := by decide +kernel
theorem dX7_count_93 : decode cX7_count 93 = .ok (.getfield 51, 3) := by decide +kernel
theorem dX7_count_96 : decode cX7_count 96 = .ok (.getfield 128, 3) := by decide +kernel
theorem dX7_count_99 : decode cX7_count 99 = .ok (.ireturn, 1) := by decide +kernel
theorem dX7_count_100 : decode cX7_count 100 = .ok (.aload_n 0, 1) := by decide +kernel
theorem dX7_count_101 : decode cX7_count 101 = .ok (.getfield 37, 3) := by decide +kernel
theorem dX7_count_104 : decode cX7_count 104 = .ok (.invokevirtual 131, 3) := by decide +kernel
theorem dX7_count_107 : decode cX7_count 107 = .ok (.aload_n 0, 1) := by decide +kernel
theorem dX7_count_108 : decode cX7_count 108 = .ok (.getfield 37, 3) := by decide +kernel
theorem dX7_count_111 : decode cX7_count 111 = .ok (.getfield 134, 3) := by decide +kernel
theorem dX7_count_114 : decode cX7_count 114 = .ok (.ireturn, 1) := by decide +kernel
theorem dX7_count_115 : decode cX7_count 115 = .ok (.aload_n 0, 1) := by decide +kernel
theorem dX7_count_116 : decode cX7_count 116 = .ok (.iload_n 1, 1) := by decide +kernel
theorem dX7_count_117 : decode cX7_count 117 = .ok (.invokevirtual 137, 3) := by decide +kernel
theorem dX7_count_120 : decode cX7_count 120 = .ok (.ireturn, 1) := by decide +kernel
set_option maxRecDepth 20000 in
theorem ggX7_pull_X3_isOn : GoodIn wsX7_pull wsX3_isOn := goodIn_r _ [8, 9, 10, 11, 12, 7, 13, 14, 15, 16, 17, 183, 184, 185, 186, 187, 188, 189, 190, 191, 192] (by decide +kernel) (by decide +kernel)
set_option maxRecDepth 20000 in
theorem gX7_pull_X3_isOn : GoodIn wsX7_pull (wsV RX7 94 RX3 yX3_isOn wsX3_isOn) := goodIn_app (goodIn_of _ (by decide +kernel)) ggX7_pull_X3_isOn
set_option maxRecDepth 20000 in
theorem ggX7_pull_X7_bears : GoodIn wsX7_pull wsX7_bears := goodIn_r _ [21, 22, 23, 24, 25, 26, 27, 28, 29, 30, 31, 32, 33, 34, 35, 36, 37, 38, 39, 40, 41, 42, 43, 44, 45, 46, 47, 48, 49, 50, 7, 51, 52, 53, 54, 55, 56, 57, 58, 15, 16, 17, 59, 60, 61, 62, 63, 64, 65, 66, 67, 68, 69, 70, 71, 72, 73, 74, 75, 76, 77, 78, 79, 80, 81, 82, 83, 84, 85, 86, 87, 88, 89, 90, 91, 92, 93, 94, 95, 96, 97, 98, 99, 100, 101, 102, 103, 104, 105, 106, 107, 108, 109, 110, 111, 112, 113, 114, 115, 116, 117, 118, 119, 120, 121, 122, 123, 124, 125, 126, 127, 128, 129, 130, 131, 132, 133, 176, 177, 178, 179, 180, 181, 182, 193, 194, 195, 196, 197, 198, 199, 200, 201, 183, 184, 185, 186, 187, 188, 189, 190, 191, 192, 202, 203, 204, 205, 206, 207, 208] (by decide +kernel) (by decide +kernel)
set_option maxRecDepth 20000 in
theorem gX7_pull_X7_bears : GoodIn wsX7_pull (wsV RX7 166 RX7 yX7_bears wsX7_bears) := goodIn_app (goodIn_of _ (by decide +kernel)) ggX7_pull_X7_bears
set_option maxRecDepth 20000 in
theorem ggX7_pull_X7_need : GoodIn wsX7_pull wsX7_need := goodIn_ca (goodIn_r _ [136, 137, 138] (by decide +kernel) (by decide +kernel)) (goodIn_sub (fun _ h => List.mem_cons_of_mem _ (List.mem_append_right _ h)) (by decide +kernel))
set_option maxRecDepth 20000 in
theorem gX7_pull_X7_need : GoodIn wsX7_pull (va_wsS RX7 140 yX7_need wsX7_need) := goodIn_app (goodIn_of _ (by decide +kernel)) ggX7_pull_X7_need
set_option maxRecDepth 20000 in
theorem ggX7_pull_X7_toldPull : GoodIn wsX7_pull wsX7_toldPull := goodIn_r _ [142, 23, 143, 144, 145, 146, 92, 147, 94, 118, 148, 149, 150, 151, 95, 96, 105, 97, 99, 113, 72, 16, 73, 152, 153, 154, 155, 127, 156, 157, 158, 159, 160, 161, 162, 163, 164, 165, 166, 167, 168, 169, 80, 170, 171, 172, 173, 174, 175, 176, 177, 178, 179, 180, 181, 182, 202, 203, 204, 205, 206, 207, 208, 183, 184, 185, 186, 187, 188, 189, 190, 191, 192, 193, 194, 195, 196, 197, 198, 199, 200, 201, 209, 210] (by decide +kernel) (by decide +kernel)
set_option maxRecDepth 20000 in
theorem gX7_pull_X7_toldPull : GoodIn wsX7_pull (wsV RX7 170 RX7 yX7_toldPull wsX7_toldPull) := goodIn_app (goodIn_of _ (by decide +kernel)) ggX7_pull_X7_toldPull
theorem dX7_pull_0 : decode cX7_pull 0 = .ok (.aload_n 0, 1) := by decide +kernel
theorem dX7_pull_1 : decode cX7_pull 1 = .ok (.getfield 17, 3) := by decide +kernel
theorem dX7_pull_4 : decode cX7_pull 4 = .ok (.iload_n 1, 1) := by decide +kernel
theorem dX7_pull_5 : decode cX7_pull 5 = .ok (.invokevirtual 94, 3) := by decide +kernel
theorem dX7_pull_8 : decode cX7_pull 8 = .ok (.ifCond .eq 28, 3) := by decide +kernel
theorem dX7_pull_11 : decode cX7_pull 11 = .ok (.aload_n 0, 1) := by decide +kernel
theorem dX7_pull_12 : decode cX7_pull 12 = .ok (.aload_n 0, 1) := by decide +kernel
theorem dX7_pull_13 : decode cX7_pull 13 = .ok (.getfield 17, 3) := by decide +kernel
theorem dX7_pull_16 : decode cX7_pull 16 = .ok (.getfield 97, 3) := by decide +kernel
theorem dX7_pull_19 : decode cX7_pull 19 = .ok (.aload_n 0, 1) := by decide +kernel
theorem dX7_pull_20 : decode cX7_pull 20 = .ok (.getfield 17, 3) := by decide +kernel
theorem dX7_pull_23 : decode cX7_pull 23 = .ok (.getfield 117, 3) := by decide +kernel
theorem dX7_pull_26 : decode cX7_pull 26 = .ok (.invokevirtual 166, 3) := by decide +kernel
theorem dX7_pull_29 : decode cX7_pull 29 = .ok (.ifCond .eq 7, 3) := by decide +kernel
theorem dX7_pull_32 : decode cX7_pull 32 = .ok (.iconst 1, 1) := by decide +kernel
theorem dX7_pull_33 : decode cX7_pull 33 = .ok (.goto 4, 3) := by decide +kernel
theorem dX7_pull_36 : decode cX7_pull 36 = .ok (.iconst 0, 1) := by decide +kernel
theorem dX7_pull_37 : decode cX7_pull 37 = .ok (.invokestatic 140, 3) := by decide +kernel
theorem dX7_pull_40 : decode cX7_pull 40 = .ok (.aload_n 0, 1) := by decide +kernel
theorem dX7_pull_41 : decode cX7_pull 41 = .ok (.iload_n 1, 1) := by decide +kernel
theorem dX7_pull_42 : decode cX7_pull 42 = .ok (.iload_n 2, 1) := by decide +kernel
theorem dX7_pull_43 : decode cX7_pull 43 = .ok (.invokevirtual 170, 3) := by decide +kernel
theorem dX7_pull_46 : decode cX7_pull 46 = .ok (.lreturn, 1) := by decide +kernel
set_option maxRecDepth 20000 in
theorem ggX7_state_X3_isOn : GoodIn wsX7_state wsX3_isOn := goodIn_r _ [11, 12, 13, 14, 15, 10, 16, 17, 18, 19, 20, 169, 170, 171, 172, 173, 174, 175, 176, 177, 178] (by decide +kernel) (by decide +kernel)
set_option maxRecDepth 20000 in
theorem gX7_state_X3_isOn : GoodIn wsX7_state (wsV RX7 94 RX3 yX3_isOn wsX3_isOn) := goodIn_app (goodIn_of _ (by decide +kernel)) ggX7_state_X3_isOn
set_option maxRecDepth 20000 in
theorem ggX7_state_X7_bears : GoodIn wsX7_state wsX7_bears := goodIn_r _ [24, 5, 4, 25, 26, 27, 28, 29, 30, 31, 32, 33, 34, 35, 36, 37, 38, 39, 40, 41, 42, 43, 44, 45, 46, 47, 48, 49, 50, 51, 10, 52, 53, 54, 55, 56, 57, 58, 59, 18, 19, 20, 60, 61, 62, 63, 64, 65, 66, 67, 68, 69, 70, 71, 72, 73, 74, 75, 76, 77, 78, 79, 80, 81, 82, 83, 84, 85, 86, 87, 88, 89, 90, 91, 92, 93, 94, 95, 96, 97, 98, 99, 100, 101, 102, 103, 104, 105, 106, 107, 108, 109, 110, 111, 112, 113, 114, 115, 116, 117, 118, 119, 120, 121, 122, 123, 124, 125, 126, 127, 128, 129, 130, 131, 132, 133, 134, 162, 163, 164, 165, 166, 167, 168, 179, 180, 181, 182, 183, 184, 185, 186, 187, 169, 170, 171, 172, 173, 174, 175, 176, 177, 178, 188, 189, 190, 191, 192, 193, 194] (by decide +kernel) (by decide +kernel)
set_option maxRecDepth 20000 in
theorem gX7_state_X7_bears : GoodIn wsX7_state (wsV RX7 166 RX7 yX7_bears wsX7_bears) := goodIn_app (goodIn_of _ (by decide +kernel)) ggX7_state_X7_bears
set_option maxRecDepth 20000 in
theorem ggX7_state_X5_isSpare : GoodIn wsX7_state wsX5_isSpare := goodIn_r _ [123, 95, 188, 189, 190, 191, 192, 193, 194] (by decide +kernel) (by decide +kernel)
set_option maxRecDepth 20000 in
theorem gX7_state_X5_isSpare : GoodIn wsX7_state (wsV RX7 174 RX5 yX5_isSpare wsX5_isSpare) := goodIn_app (goodIn_of _ (by decide +kernel)) ggX7_state_X5_isSpare
set_option maxRecDepth 20000 in
theorem ggX7_state_X7_need : GoodIn wsX7_state wsX7_need := goodIn_ca (goodIn_r _ [138, 139, 140] (by decide +kernel) (by decide +kernel)) (goodIn_sub (fun _ h => List.mem_cons_of_mem _ (List.mem_append_right _ h)) (by decide +kernel))
set_option maxRecDepth 20000 in
theorem gX7_state_X7_need : GoodIn wsX7_state (va_wsS RX7 140 yX7_need wsX7_need) := goodIn_app (goodIn_of _ (by decide +kernel)) ggX7_state_X7_need
set_option maxRecDepth 20000 in
theorem ggX7_state_X5_stateOf : GoodIn wsX7_state wsX5_stateOf := goodIn_r _ [118, 106, 119, 120, 121, 122, 93, 123, 95, 188, 189, 190, 191, 192, 193, 194] (by decide +kernel) (by decide +kernel)
set_option maxRecDepth 20000 in
theorem gX7_state_X5_stateOf : GoodIn wsX7_state (wsV RX7 177 RX5 yX5_stateOf wsX5_stateOf) := goodIn_app (goodIn_of _ (by decide +kernel)) ggX7_state_X5_stateOf
set_option maxRecDepth 20000 in
theorem ggX7_state_X7_told : GoodIn wsX7_state wsX7_told := goodIn_r _ [145, 146, 147, 148, 149, 150, 151, 152, 153, 154, 155, 81, 156, 157, 158, 159, 160, 161, 73, 19, 74, 162, 163, 164, 165, 166, 167, 168, 195, 196] (by decide +kernel) (by decide +kernel)
set_option maxRecDepth 20000 in
theorem gX7_state_X7_told : GoodIn wsX7_state (wsV RX7 185 RX7 yX7_told wsX7_told) := goodIn_app (goodIn_of _ (by decide +kernel)) ggX7_state_X7_told
theorem dX7_state_0 : decode cX7_state 0 = .ok (.aload_n 0, 1) := by decide +kernel
theorem dX7_state_1 : decode cX7_state 1 = .ok (.getfield 17, 3) := by decide +kernel
theorem dX7_state_4 : decode cX7_state 4 = .ok (.iload_n 2, 1) := by decide +kernel
theorem dX7_state_5 : decode cX7_state 5 = .ok (.invokevirtual 94, 3) := by decide +kernel
theorem dX7_state_8 : decode cX7_state 8 = .ok (.ifCond .eq 44, 3) := by decide +kernel
theorem dX7_state_11 : decode cX7_state 11 = .ok (.aload_n 0, 1) := by decide +kernel
theorem dX7_state_12 : decode cX7_state 12 = .ok (.aload_n 0, 1) := by decide +kernel
theorem dX7_state_13 : decode cX7_state 13 = .ok (.getfield 17, 3) := by decide +kernel
theorem dX7_state_16 : decode cX7_state 16 = .ok (.getfield 97, 3) := by decide +kernel
theorem dX7_state_19 : decode cX7_state 19 = .ok (.aload_n 0, 1) := by decide +kernel
theorem dX7_state_20 : decode cX7_state 20 = .ok (.getfield 17, 3) := by decide +kernel
theorem dX7_state_23 : decode cX7_state 23 = .ok (.getfield 117, 3) := by decide +kernel
theorem dX7_state_26 : decode cX7_state 26 = .ok (.invokevirtual 166, 3) := by decide +kernel
theorem dX7_state_29 : decode cX7_state 29 = .ok (.ifCond .eq 23, 3) := by decide +kernel
theorem dX7_state_32 : decode cX7_state 32 = .ok (.iload_n 1, 1) := by decide +kernel
theorem dX7_state_33 : decode cX7_state 33 = .ok (.iconst (-1), 1) := by decide +kernel
theorem dX7_state_34 : decode cX7_state 34 = .ok (.if_icmp .eq 14, 3) := by decide +kernel
theorem dX7_state_37 : decode cX7_state 37 = .ok (.aload_n 0, 1) := by decide +kernel
theorem dX7_state_38 : decode cX7_state 38 = .ok (.getfield 30, 3) := by decide +kernel
theorem dX7_state_41 : decode cX7_state 41 = .ok (.iload_n 1, 1) := by decide +kernel
theorem dX7_state_42 : decode cX7_state 42 = .ok (.invokevirtual 174, 3) := by decide +kernel
theorem dX7_state_45 : decode cX7_state 45 = .ok (.ifCond .eq 7, 3) := by decide +kernel
theorem dX7_state_48 : decode cX7_state 48 = .ok (.iconst 1, 1) := by decide +kernel
theorem dX7_state_49 : decode cX7_state 49 = .ok (.goto 4, 3) := by decide +kernel
theorem dX7_state_52 : decode cX7_state 52 = .ok (.iconst 0, 1) := by decide +kernel
theorem dX7_state_53 : decode cX7_state 53 = .ok (.invokestatic 140, 3) := by decide +kernel
theorem dX7_state_56 : decode cX7_state 56 = .ok (.aload_n 0, 1) := by decide +kernel
theorem dX7_state_57 : decode cX7_state 57 = .ok (.aload_n 0, 1) := by decide +kernel
theorem dX7_state_58 : decode cX7_state 58 = .ok (.getfield 30, 3) := by decide +kernel
theorem dX7_state_61 : decode cX7_state 61 = .ok (.iload_n 1, 1) := by decide +kernel
theorem dX7_state_62 : decode cX7_state 62 = .ok (.iload_n 2, 1) := by decide +kernel
theorem dX7_state_63 : decode cX7_state 63 = .ok (.invokevirtual 177, 3) := by decide +kernel
theorem dX7_state_66 : decode cX7_state 66 = .ok (.aload_n 0, 1) := by decide +kernel
theorem dX7_state_67 : decode cX7_state 67 = .ok (.getfield 21, 3) := by decide +kernel
theorem dX7_state_70 : decode cX7_state 70 = .ok (.getfield 181, 3) := by decide +kernel
theorem dX7_state_73 : decode cX7_state 73 = .ok (.iload_n 3, 1) := by decide +kernel
theorem dX7_state_74 : decode cX7_state 74 = .ok (.invokevirtual 185, 3) := by decide +kernel
theorem dX7_state_77 : decode cX7_state 77 = .ok (.lreturn, 1) := by decide +kernel
set_option maxRecDepth 20000 in
theorem ggX7_force_X3_isPin : GoodIn wsX7_force wsX3_isPin := goodIn_r _ [12, 13, 190, 191, 192, 193, 194, 195, 196, 197, 198, 199] (by decide +kernel) (by decide +kernel)
set_option maxRecDepth 20000 in
theorem gX7_force_X3_isPin : GoodIn wsX7_force (wsV RX7 74 RX3 yX3_isPin wsX3_isPin) := goodIn_app (goodIn_of _ (by decide +kernel)) ggX7_force_X3_isPin
set_option maxRecDepth 20000 in
theorem ggX7_force_X7_isDirection : GoodIn wsX7_force wsX7_isDirection := goodIn_r _ [17] (by decide +kernel) (by decide +kernel)
set_option maxRecDepth 20000 in
theorem gX7_force_X7_isDirection : GoodIn wsX7_force (va_wsS RX7 107 yX7_isDirection wsX7_isDirection) := goodIn_app (goodIn_of _ (by decide +kernel)) ggX7_force_X7_isDirection
set_option maxRecDepth 20000 in
theorem ggX7_force_X7_need : GoodIn wsX7_force wsX7_need := goodIn_ca (goodIn_r _ [20, 21, 22] (by decide +kernel) (by decide +kernel)) (goodIn_sub (fun _ h => List.mem_cons_of_mem _ (List.mem_append_right _ h)) (by decide +kernel))
set_option maxRecDepth 20000 in
theorem gX7_force_X7_need : GoodIn wsX7_force (va_wsS RX7 140 yX7_need wsX7_need) := goodIn_app (goodIn_of _ (by decide +kernel)) ggX7_force_X7_need
set_option maxRecDepth 20000 in
theorem ggX7_force_X7_bears : GoodIn wsX7_force wsX7_bears := goodIn_r _ [26, 27, 5, 28, 29, 30, 31, 32, 33, 34, 35, 36, 37, 38, 39, 40, 41, 42, 43, 44, 45, 46, 47, 48, 49, 50, 51, 52, 53, 54, 11, 55, 56, 57, 58, 59, 60, 61, 62, 63, 16, 64, 65, 66, 67, 68, 69, 70, 71, 72, 73, 74, 75, 76, 77, 78, 79, 80, 81, 82, 83, 84, 85, 86, 87, 88, 89, 90, 91, 92, 93, 94, 95, 96, 97, 98, 99, 100, 101, 102, 103, 104, 105, 106, 107, 108, 109, 110, 111, 112, 113, 114, 115, 116, 117, 118, 119, 120, 121, 122, 123, 124, 125, 126, 127, 128, 129, 130, 131, 132, 133, 134, 135, 136, 137, 138, 139, 183, 184, 185, 186, 187, 188, 189, 207, 208, 209, 210, 211, 212, 213, 214, 215, 190, 191, 192, 193, 194, 195, 196, 197, 198, 199, 200, 201, 202, 203, 204, 205, 206] (by decide +kernel) (by decide +kernel)
set_option maxRecDepth 20000 in
theorem gX7_force_X7_bears : GoodIn wsX7_force (wsV RX7 166 RX7 yX7_bears wsX7_bears) := goodIn_app (goodIn_of _ (by decide +kernel)) ggX7_force_X7_bears
set_option maxRecDepth 20000 in
theorem ggX7_force_X3_isOn : GoodIn wsX7_force wsX3_isOn := goodIn_r _ [143, 144, 145, 146, 147, 11, 148, 149, 63, 16, 64, 190, 191, 192, 193, 194, 195, 196, 197, 198, 199] (by decide +kernel) (by decide +kernel)
set_option maxRecDepth 20000 in
theorem gX7_force_X3_isOn : GoodIn wsX7_force (wsV RX7 94 RX3 yX3_isOn wsX3_isOn) := goodIn_app (goodIn_of _ (by decide +kernel)) ggX7_force_X3_isOn
set_option maxRecDepth 20000 in
theorem ggX7_force_X3_brings : GoodIn wsX7_force wsX3_brings := goodIn_r _ [55, 56, 57, 58, 190, 191, 192, 193, 194, 195, 196, 197, 198, 199] (by decide +kernel) (by decide +kernel)
set_option maxRecDepth 20000 in
theorem gX7_force_X3_brings : GoodIn wsX7_force (wsV RX7 195 RX3 yX3_brings wsX3_brings) := goodIn_app (goodIn_of _ (by decide +kernel)) ggX7_force_X3_brings
set_option maxRecDepth 20000 in
theorem ggX7_force_X5_overOf : GoodIn wsX7_force wsX5_overOf := goodIn_r _ [154, 100, 124, 155, 156, 157, 98, 158, 101, 102, 111, 103, 105, 119, 78, 16, 79, 159, 160, 161, 162, 133, 200, 201, 202, 203, 204, 205, 206, 190, 191, 192, 193, 194, 195, 196, 197, 198, 199, 207, 208, 209, 210, 211, 212, 213, 214, 215] (by decide +kernel) (by decide +kernel)
set_option maxRecDepth 20000 in
theorem gX7_force_X5_overOf : GoodIn wsX7_force (wsV RX7 199 RX5 yX5_overOf wsX5_overOf) := goodIn_app (goodIn_of _ (by decide +kernel)) ggX7_force_X5_overOf
set_option maxRecDepth 20000 in
theorem ggX7_force_X7_told : GoodIn wsX7_force wsX7_told := goodIn_r _ [166, 167, 168, 169, 170, 171, 172, 173, 174, 175, 176, 86, 177, 178, 179, 180, 181, 182, 78, 16, 79, 183, 184, 185, 186, 187, 188, 189, 216, 217] (by decide +kernel) (by decide +kernel)
set_option maxRecDepth 20000 in
theorem gX7_force_X7_told : GoodIn wsX7_force (wsV RX7 185 RX7 yX7_told wsX7_told) := goodIn_app (goodIn_of _ (by decide +kernel)) ggX7_force_X7_told
theorem dX7_force_0 : decode cX7_force 0 = .ok (.aload_n 0, 1) := by decide +kernel
theorem dX7_force_1 : decode cX7_force 1 = .ok (.getfield 17, 3) := by decide +kernel
theorem dX7_force_4 : decode cX7_force 4 = .ok (.iload_n 1, 1) := by decide +kernel
theorem dX7_force_5 : decode cX7_force 5 = .ok (.invokevirtual 74, 3) := by decide +kernel
theorem dX7_force_8 : decode cX7_force 8 = .ok (.ifCond .eq 14, 3) := by decide +kernel
theorem dX7_force_11 : decode cX7_force 11 = .ok (.iload_n 2, 1) := by decide +kernel
theorem dX7_force_12 : decode cX7_force 12 = .ok (.invokestatic 107, 3) := by decide +kernel
theorem dX7_force_15 : decode cX7_force 15 = .ok (.ifCond .eq 7, 3) := by decide +kernel
theorem dX7_force_18 : decode cX7_force 18 = .ok (.iconst 1, 1) := by decide +kernel
theorem dX7_force_19 : decode cX7_force 19 = .ok (.goto 4, 3) := by decide +kernel
theorem dX7_force_22 : decode cX7_force 22 = .ok (.iconst 0, 1) := by decide +kernel
theorem dX7_force_23 : decode cX7_force 23 = .ok (.invokestatic 140, 3) := by decide +kernel
theorem dX7_force_26 : decode cX7_force 26 = .ok (.iconst 2, 1) := by decide +kernel
theorem dX7_force_27 : decode cX7_force 27 = .ok (.iload_n 1, 1) := by decide +kernel
theorem dX7_force_28 : decode cX7_force 28 = .ok (.imul, 1) := by decide +kernel
theorem dX7_force_29 : decode cX7_force 29 = .ok (.iload_n 2, 1) := by decide +kernel
theorem dX7_force_30 : decode cX7_force 30 = .ok (.iadd, 1) := by decide +kernel
theorem dX7_force_31 : decode cX7_force 31 = .ok (.istore 4, 2) := by decide +kernel
theorem dX7_force_33 : decode cX7_force 33 = .ok (.aload_n 0, 1) := by decide +kernel
theorem dX7_force_34 : decode cX7_force 34 = .ok (.getfield 17, 3) := by decide +kernel
theorem dX7_force_37 : decode cX7_force 37 = .ok (.getfield 110, 3) := by decide +kernel
theorem dX7_force_40 : decode cX7_force 40 = .ok (.iload 4, 2) := by decide +kernel
theorem dX7_force_42 : decode cX7_force 42 = .ok (.baload, 1) := by decide +kernel
theorem dX7_force_43 : decode cX7_force 43 = .ok (.ifCond .eq 28, 3) := by decide +kernel
theorem dX7_force_46 : decode cX7_force 46 = .ok (.aload_n 0, 1) := by decide +kernel
theorem dX7_force_47 : decode cX7_force 47 = .ok (.aload_n 0, 1) := by decide +kernel
theorem dX7_force_48 : decode cX7_force 48 = .ok (.getfield 17, 3) := by decide +kernel
theorem dX7_force_51 : decode cX7_force 51 = .ok (.getfield 97, 3) := by decide +kernel
theorem dX7_force_54 : decode cX7_force 54 = .ok (.aload_n 0, 1) := by decide +kernel
theorem dX7_force_55 : decode cX7_force 55 = .ok (.getfield 17, 3) := by decide +kernel
theorem dX7_force_58 : decode cX7_force 58 = .ok (.getfield 117, 3) := by decide +kernel
theorem dX7_force_61 : decode cX7_force 61 = .ok (.invokevirtual 166, 3) := by decide +kernel
theorem dX7_force_64 : decode cX7_force 64 = .ok (.ifCond .eq 7, 3) := by decide +kernel
theorem dX7_force_67 : decode cX7_force 67 = .ok (.iconst 1, 1) := by decide +kernel
theorem dX7_force_68 : decode cX7_force 68 = .ok (.goto 4, 3) := by decide +kernel
theorem dX7_force_71 : decode cX7_force 71 = .ok (.iconst 0, 1) := by decide +kernel
theorem dX7_force_72 : decode cX7_force 72 = .ok (.invokestatic 140, 3) := by decide +kernel
theorem dX7_force_75 : decode cX7_force 75 = .ok (.aload_n 0, 1) := by decide +kernel
theorem dX7_force_76 : decode cX7_force 76 = .ok (.getfield 17, 3) := by decide +kernel
theorem dX7_force_79 : decode cX7_force 79 = .ok (.getfield 117, 3) := by decide +kernel
theorem dX7_force_82 : decode cX7_force 82 = .ok (.iload 4, 2) := by decide +kernel
theorem dX7_force_84 : decode cX7_force 84 = .ok (.iaload, 1) := by decide +kernel
theorem dX7_force_85 : decode cX7_force 85 = .ok (.i2l, 1) := by decide +kernel
theorem dX7_force_86 : decode cX7_force 86 = .ok (.aload_n 0, 1) := by decide +kernel
theorem dX7_force_87 : decode cX7_force 87 = .ok (.getfield 30, 3) := by decide +kernel
theorem dX7_force_90 : decode cX7_force 90 = .ok (.getfield 192, 3) := by decide +kernel
theorem dX7_force_93 : decode cX7_force 93 = .ok (.lmul, 1) := by decide +kernel
theorem dX7_force_94 : decode cX7_force 94 = .ok (.lstore 5, 2) := by decide +kernel
theorem dX7_force_96 : decode cX7_force 96 = .ok (.iconst 0, 1) := by decide +kernel
theorem dX7_force_97 : decode cX7_force 97 = .ok (.istore 7, 2) := by decide +kernel
theorem dX7_force_99 : decode cX7_force 99 = .ok (.iload 7, 2) := by decide +kernel
theorem dX7_force_101 : decode cX7_force 101 = .ok (.aload_n 0, 1) := by decide +kernel
theorem dX7_force_102 : decode cX7_force 102 = .ok (.getfield 17, 3) := by decide +kernel
theorem dX7_force_105 : decode cX7_force 105 = .ok (.getfield 78, 3) := by decide +kernel
theorem dX7_force_108 : decode cX7_force 108 = .ok (.if_icmp .ge 62, 3) := by decide +kernel
theorem dX7_force_111 : decode cX7_force 111 = .ok (.aload_n 0, 1) := by decide +kernel
theorem dX7_force_112 : decode cX7_force 112 = .ok (.getfield 17, 3) := by decide +kernel
theorem dX7_force_115 : decode cX7_force 115 = .ok (.iload 7, 2) := by decide +kernel
theorem dX7_force_117 : decode cX7_force 117 = .ok (.invokevirtual 94, 3) := by decide +kernel
theorem dX7_force_120 : decode cX7_force 120 = .ok (.ifCond .eq 44, 3) := by decide +kernel
theorem dX7_force_123 : decode cX7_force 123 = .ok (.aload_n 0, 1) := by decide +kernel
theorem dX7_force_124 : decode cX7_force 124 = .ok (.getfield 17, 3) := by decide +kernel
theorem dX7_force_127 : decode cX7_force 127 = .ok (.iload 7, 2) := by decide +kernel
theorem dX7_force_129 : decode cX7_force 129 = .ok (.iload 4, 2) := by decide +kernel
theorem dX7_force_131 : decode cX7_force 131 = .ok (.invokevirtual 195, 3) := by decide +kernel
theorem dX7_force_134 : decode cX7_force 134 = .ok (.ifCond .eq 30, 3) := by decide +kernel
theorem dX7_force_137 : decode cX7_force 137 = .ok (.lload 5, 2) := by decide +kernel
theorem dX7_force_139 : decode cX7_force 139 = .ok (.aload_n 0, 1) := by decide +kernel
theorem dX7_force_140 : decode cX7_force 140 = .ok (.getfield 17, 3) := by decide +kernel
theorem dX7_force_143 : decode cX7_force 143 = .ok (.iload 7, 2) := by decide +kernel
theorem dX7_force_145 : decode cX7_force 145 = .ok (.iload 4, 2) := by decide +kernel
theorem dX7_force_147 : decode cX7_force 147 = .ok (.invokevirtual 195, 3) := by decide +kernel
theorem dX7_force_150 : decode cX7_force 150 = .ok (.i2l, 1) := by decide +kernel
theorem dX7_force_151 : decode cX7_force 151 = .ok (.aload_n 0, 1) := by decide +kernel
theorem dX7_force_152 : decode cX7_force 152 = .ok (.getfield 30, 3) := by decide +kernel
theorem dX7_force_155 : decode cX7_force 155 = .ok (.iload 7, 2) := by decide +kernel
theorem dX7_force_157 : decode cX7_force 157 = .ok (.invokevirtual 199, 3) := by decide +kernel
theorem dX7_force_160 : decode cX7_force 160 = .ok (.lmul, 1) := by decide +kernel
theorem dX7_force_161 : decode cX7_force 161 = .ok (.ladd, 1) := by decide +kernel
theorem dX7_force_162 : decode cX7_force 162 = .ok (.lstore 5, 2) := by decide +kernel
theorem dX7_force_164 : decode cX7_force 164 = .ok (.iinc 7 1, 3) := by decide +kernel
theorem dX7_force_167 : decode cX7_force 167 = .ok (.goto (-68), 3) := by decide +kernel
theorem dX7_force_170 : decode cX7_force 170 = .ok (.aload_n 0, 1) := by decide +kernel
theorem dX7_force_171 : decode cX7_force 171 = .ok (.lload 5, 2) := by decide +kernel
theorem dX7_force_173 : decode cX7_force 173 = .ok (.lneg, 1) := by decide +kernel
theorem dX7_force_174 : decode cX7_force 174 = .ok (.aload_n 0, 1) := by decide +kernel
theorem dX7_force_175 : decode cX7_force 175 = .ok (.getfield 30, 3) := by decide +kernel
theorem dX7_force_178 : decode cX7_force 178 = .ok (.getfield 192, 3) := by decide +kernel
theorem dX7_force_181 : decode cX7_force 181 = .ok (.iload_n 3, 1) := by decide +kernel
theorem dX7_force_182 : decode cX7_force 182 = .ok (.invokevirtual 185, 3) := by decide +kernel
theorem dX7_force_185 : decode cX7_force 185 = .ok (.lreturn, 1) := by decide +kernel
set_option maxRecDepth 20000 in
theorem ggX7_painted_X7_bears : GoodIn wsX7_painted wsX7_bears := goodIn_r _ [9, 10, 11, 12, 13, 14, 15, 16, 17, 18, 19, 20, 21, 22, 23, 24, 25, 26, 27, 28, 29, 30, 31, 32, 33, 34, 35, 36, 37, 38, 39, 40, 41, 42, 43, 44, 45, 46, 47, 48, 8, 49, 50, 51, 52, 53, 54, 55, 56, 57, 58, 59, 60, 61, 62, 63, 64, 65, 66, 67, 68, 69, 70, 71, 72, 73, 74, 75, 76, 77, 78, 79, 80, 81, 82, 83, 84, 85, 86, 87, 88, 89, 90, 91, 92, 93, 94, 95, 96, 97, 98, 99, 100, 101, 102, 103, 104, 105, 106, 107, 108, 109, 110, 111, 112, 113, 114, 115, 116, 117, 118, 119, 120, 121, 122, 123, 124, 170, 171, 172, 173, 174, 175, 176, 187, 188, 189, 190, 191, 192, 193, 194, 195, 177, 178, 179, 180, 181, 182, 183, 184, 185, 186, 196, 197, 198, 199, 200, 201, 202] (by decide +kernel) (by decide +kernel)
set_option maxRecDepth 20000 in
theorem gX7_painted_X7_bears : GoodIn wsX7_painted (wsV RX7 166 RX7 yX7_bears wsX7_bears) := goodIn_app (goodIn_of _ (by decide +kernel)) ggX7_painted_X7_bears
set_option maxRecDepth 20000 in
theorem ggX7_painted_X3_isOn : GoodIn wsX7_painted wsX3_isOn := goodIn_r _ [128, 129, 130, 131, 132, 39, 133, 134, 48, 8, 49, 177, 178, 179, 180, 181, 182, 183, 184, 185, 186] (by decide +kernel) (by decide +kernel)
set_option maxRecDepth 20000 in
theorem gX7_painted_X3_isOn : GoodIn wsX7_painted (wsV RX7 94 RX3 yX3_isOn wsX3_isOn) := goodIn_app (goodIn_of _ (by decide +kernel)) ggX7_painted_X3_isOn
set_option maxRecDepth 20000 in
theorem ggX7_painted_X7_isPainted : GoodIn wsX7_painted wsX7_isPainted := goodIn_r _ [138, 139, 11, 140, 141, 142, 143, 71, 144, 1, 145, 146, 147, 148, 149, 83, 150, 85, 109, 151, 152, 153, 154, 86, 87, 96, 88, 90, 104, 63, 8, 64, 155, 156, 157, 158, 118, 159, 160, 161, 162, 163, 164, 165, 166, 167, 168, 169, 170, 171, 172, 173, 174, 175, 176, 196, 197, 198, 199, 200, 201, 202, 203, 204, 177, 178, 179, 180, 181, 182, 183, 184, 185, 186, 187, 188, 189, 190, 191, 192, 193, 194, 195] (by decide +kernel) (by decide +kernel)
set_option maxRecDepth 20000 in
theorem gX7_painted_X7_isPainted : GoodIn wsX7_painted (wsV RX7 223 RX7 yX7_isPainted wsX7_isPainted) := goodIn_app (goodIn_of _ (by decide +kernel)) ggX7_painted_X7_isPainted
theorem dX7_painted_0 : decode cX7_painted 0 = .ok (.iload_n 1, 1) := by decide +kernel
theorem dX7_painted_1 : decode cX7_painted 1 = .ok (.iconst (-1), 1) := by decide +kernel
theorem dX7_painted_2 : decode cX7_painted 2 = .ok (.if_icmp .lt 29, 3) := by decide +kernel
theorem dX7_painted_5 : decode cX7_painted 5 = .ok (.iload_n 1, 1) := by decide +kernel
theorem dX7_painted_6 : decode cX7_painted 6 = .ok (.iconst 2, 1) := by decide +kernel
theorem dX7_painted_7 : decode cX7_painted 7 = .ok (.if_icmp .gt 24, 3) := by decide +kernel
theorem dX7_painted_10 : decode cX7_painted 10 = .ok (.aload_n 0, 1) := by decide +kernel
theorem dX7_painted_11 : decode cX7_painted 11 = .ok (.aload_n 0, 1) := by decide +kernel
theorem dX7_painted_12 : decode cX7_painted 12 = .ok (.getfield 17, 3) := by decide +kernel
theorem dX7_painted_15 : decode cX7_painted 15 = .ok (.getfield 97, 3) := by decide +kernel
theorem dX7_painted_18 : decode cX7_painted 18 = .ok (.aload_n 0, 1) := by decide +kernel
theorem dX7_painted_19 : decode cX7_painted 19 = .ok (.getfield 17, 3) := by decide +kernel
theorem dX7_painted_22 : decode cX7_painted 22 = .ok (.getfield 117, 3) := by decide +kernel
theorem dX7_painted_25 : decode cX7_painted 25 = .ok (.invokevirtual 166, 3) := by decide +kernel
theorem dX7_painted_28 : decode cX7_painted 28 = .ok (.ifCond .ne 5, 3) := by decide +kernel
theorem dX7_painted_31 : decode cX7_painted 31 = .ok (.iconst (-1), 1) := by decide +kernel
theorem dX7_painted_32 : decode cX7_painted 32 = .ok (.ireturn, 1) := by decide +kernel
theorem dX7_painted_33 : decode cX7_painted 33 = .ok (.iconst 0, 1) := by decide +kernel
theorem dX7_painted_34 : decode cX7_painted 34 = .ok (.istore_n 2, 1) := by decide +kernel
theorem dX7_painted_35 : decode cX7_painted 35 = .ok (.iconst 0, 1) := by decide +kernel
theorem dX7_painted_36 : decode cX7_painted 36 = .ok (.istore_n 3, 1) := by decide +kernel
theorem dX7_painted_37 : decode cX7_painted 37 = .ok (.iload_n 3, 1) := by decide +kernel
theorem dX7_painted_38 : decode cX7_painted 38 = .ok (.aload_n 0, 1) := by decide +kernel
theorem dX7_painted_39 : decode cX7_painted 39 = .ok (.getfield 17, 3) := by decide +kernel
theorem dX7_painted_42 : decode cX7_painted 42 = .ok (.getfield 78, 3) := by decide +kernel
theorem dX7_painted_45 : decode cX7_painted 45 = .ok (.if_icmp .ge 35, 3) := by decide +kernel
theorem dX7_painted_48 : decode cX7_painted 48 = .ok (.aload_n 0, 1) := by decide +kernel
theorem dX7_painted_49 : decode cX7_painted 49 = .ok (.getfield 17, 3) := by decide +kernel
theorem dX7_painted_52 : decode cX7_painted 52 = .ok (.iload_n 3, 1) := by decide +kernel
theorem dX7_painted_53 : decode cX7_painted 53 = .ok (.invokevirtual 94, 3) := by decide +kernel
theorem dX7_painted_56 : decode cX7_painted 56 = .ok (.ifCond .eq 18, 3) := by decide +kernel
theorem dX7_painted_59 : decode cX7_painted 59 = .ok (.aload_n 0, 1) := by decide +kernel
theorem dX7_painted_60 : decode cX7_painted 60 = .ok (.iload_n 3, 1) := by decide +kernel
theorem dX7_painted_61 : decode cX7_painted 61 = .ok (.iload_n 1, 1) := by decide +kernel
theorem dX7_painted_62 : decode cX7_painted 62 = .ok (.invokevirtual 223, 3) := by decide +kernel
theorem dX7_painted_65 : decode cX7_painted 65 = .ok (.ifCond .eq 9, 3) := by decide +kernel
theorem dX7_painted_68 : decode cX7_painted 68 = .ok (.iload_n 2, 1) := by decide +kernel
theorem dX7_painted_69 : decode cX7_painted 69 = .ok (.iconst 1, 1) := by decide +kernel
theorem dX7_painted_70 : decode cX7_painted 70 = .ok (.iload_n 3, 1) := by decide +kernel
theorem dX7_painted_71 : decode cX7_painted 71 = .ok (.ishl, 1) := by decide +kernel
theorem dX7_painted_72 : decode cX7_painted 72 = .ok (.ior, 1) := by decide +kernel
theorem dX7_painted_73 : decode cX7_painted 73 = .ok (.istore_n 2, 1) := by decide +kernel
theorem dX7_painted_74 : decode cX7_painted 74 = .ok (.iinc 3 1, 3) := by decide +kernel
theorem dX7_painted_77 : decode cX7_painted 77 = .ok (.goto (-40), 3) := by decide +kernel
theorem dX7_painted_80 : decode cX7_painted 80 = .ok (.iload_n 2, 1) := by decide +kernel
theorem dX7_painted_81 : decode cX7_painted 81 = .ok (.ireturn, 1) := by decide +kernel
set_option maxRecDepth 20000 in
theorem ggX7_times_X7_bears : GoodIn wsX7_times wsX7_bears := goodIn_r _ [14, 15, 16, 17, 18, 19, 20, 21, 22, 23, 24, 25, 26, 27, 28, 29, 30, 31, 32, 33, 34, 35, 36, 37, 38, 39, 40, 41, 42, 43, 44, 45, 46, 47, 48, 49, 50, 51, 52, 53, 13, 54, 55, 56, 57, 58, 59, 60, 61, 62, 63, 64, 65, 66, 67, 68, 69, 70, 71, 72, 73, 74, 75, 8, 76, 77, 78, 79, 80, 81, 82, 83, 84, 85, 86, 87, 88, 89, 90, 91, 92, 93, 94, 95, 96, 97, 98, 99, 100, 101, 102, 103, 104, 105, 106, 107, 108, 109, 110, 111, 112, 113, 114, 115, 116, 117, 118, 119, 120, 121, 122, 123, 124, 125, 126, 127, 128, 175, 176, 177, 178, 179, 180, 181, 192, 193, 194, 195, 196, 197, 198, 199, 200, 182, 183, 184, 185, 186, 187, 188, 189, 190, 191, 201, 202, 203, 204, 205, 206, 207] (by decide +kernel) (by decide +kernel)
set_option maxRecDepth 20000 in
theorem gX7_times_X7_bears : GoodIn wsX7_times (wsV RX7 166 RX7 yX7_bears wsX7_bears) := goodIn_app (goodIn_of _ (by decide +kernel)) ggX7_times_X7_bears
set_option maxRecDepth 20000 in
theorem ggX7_times_X3_isOn : GoodIn wsX7_times wsX3_isOn := goodIn_r _ [132, 133, 134, 135, 136, 44, 137, 138, 53, 13, 54, 182, 183, 184, 185, 186, 187, 188, 189, 190, 191] (by decide +kernel) (by decide +kernel)
set_option maxRecDepth 20000 in
theorem gX7_times_X3_isOn : GoodIn wsX7_times (wsV RX7 94 RX3 yX3_isOn wsX3_isOn) := goodIn_app (goodIn_of _ (by decide +kernel)) ggX7_times_X3_isOn
set_option maxRecDepth 20000 in
theorem ggX7_times_X7_timesOf : GoodIn wsX7_times wsX7_timesOf := goodIn_r _ [142, 143, 16, 144, 145, 146, 147, 8, 148, 149, 4, 1, 150, 151, 152, 153, 87, 154, 89, 113, 155, 156, 157, 158, 90, 91, 100, 92, 94, 108, 68, 13, 69, 159, 160, 161, 162, 122, 163, 164, 165, 166, 167, 168, 169, 170, 171, 172, 173, 174, 175, 176, 177, 178, 179, 180, 181, 201, 202, 203, 204, 205, 206, 207, 208, 209, 182, 183, 184, 185, 186, 187, 188, 189, 190, 191, 192, 193, 194, 195, 196, 197, 198, 199, 200] (by decide +kernel) (by decide +kernel)
set_option maxRecDepth 20000 in
theorem gX7_times_X7_timesOf : GoodIn wsX7_times (wsV RX7 228 RX7 yX7_timesOf wsX7_timesOf) := goodIn_app (goodIn_of _ (by decide +kernel)) ggX7_times_X7_timesOf
theorem dX7_times_0 : decode cX7_times 0 = .ok (.aload_n 0, 1) := by decide +kernel
theorem dX7_times_1 : decode cX7_times 1 = .ok (.aload_n 0, 1) := by decide +kernel
theorem dX7_times_2 : decode cX7_times 2 = .ok (.getfield 17, 3) := by decide +kernel
theorem dX7_times_5 : decode cX7_times 5 = .ok (.getfield 97, 3) := by decide +kernel
theorem dX7_times_8 : decode cX7_times 8 = .ok (.aload_n 0, 1) := by decide +kernel
theorem dX7_times_9 : decode cX7_times 9 = .ok (.getfield 17, 3) := by decide +kernel
theorem dX7_times_12 : decode cX7_times 12 = .ok (.getfield 117, 3) := by decide +kernel
theorem dX7_times_15 : decode cX7_times 15 = .ok (.invokevirtual 166, 3) := by decide +kernel
theorem dX7_times_18 : decode cX7_times 18 = .ok (.ifCond .ne 5, 3) := by decide +kernel
theorem dX7_times_21 : decode cX7_times 21 = .ok (.iconst (-1), 1) := by decide +kernel
theorem dX7_times_22 : decode cX7_times 22 = .ok (.ireturn, 1) := by decide +kernel
theorem dX7_times_23 : decode cX7_times 23 = .ok (.ldc2_w 226, 3) := by decide +kernel
theorem dX7_times_26 : decode cX7_times 26 = .ok (.lstore_n 1, 1) := by decide +kernel
theorem dX7_times_27 : decode cX7_times 27 = .ok (.iconst 0, 1) := by decide +kernel
theorem dX7_times_28 : decode cX7_times 28 = .ok (.istore_n 3, 1) := by decide +kernel
theorem dX7_times_29 : decode cX7_times 29 = .ok (.iload_n 3, 1) := by decide +kernel
theorem dX7_times_30 : decode cX7_times 30 = .ok (.aload_n 0, 1) := by decide +kernel
theorem dX7_times_31 : decode cX7_times 31 = .ok (.getfield 17, 3) := by decide +kernel
theorem dX7_times_34 : decode cX7_times 34 = .ok (.getfield 78, 3) := by decide +kernel
theorem dX7_times_37 : decode cX7_times 37 = .ok (.if_icmp .ge 30, 3) := by decide +kernel
theorem dX7_times_40 : decode cX7_times 40 = .ok (.aload_n 0, 1) := by decide +kernel
theorem dX7_times_41 : decode cX7_times 41 = .ok (.getfield 17, 3) := by decide +kernel
theorem dX7_times_44 : decode cX7_times 44 = .ok (.iload_n 3, 1) := by decide +kernel
theorem dX7_times_45 : decode cX7_times 45 = .ok (.invokevirtual 94, 3) := by decide +kernel
theorem dX7_times_48 : decode cX7_times 48 = .ok (.ifCond .eq 13, 3) := by decide +kernel
theorem dX7_times_51 : decode cX7_times 51 = .ok (.lload_n 1, 1) := by decide +kernel
theorem dX7_times_52 : decode cX7_times 52 = .ok (.aload_n 0, 1) := by decide +kernel
theorem dX7_times_53 : decode cX7_times 53 = .ok (.iload_n 3, 1) := by decide +kernel
theorem dX7_times_54 : decode cX7_times 54 = .ok (.invokevirtual 228, 3) := by decide +kernel
theorem dX7_times_57 : decode cX7_times 57 = .ok (.invokestatic 231, 3) := by decide +kernel
theorem dX7_times_60 : decode cX7_times 60 = .ok (.lstore_n 1, 1) := by decide +kernel
theorem dX7_times_61 : decode cX7_times 61 = .ok (.iinc 3 1, 3) := by decide +kernel
theorem dX7_times_64 : decode cX7_times 64 = .ok (.goto (-35), 3) := by decide +kernel
theorem dX7_times_67 : decode cX7_times 67 = .ok (.lload_n 1, 1) := by decide +kernel
theorem dX7_times_68 : decode cX7_times 68 = .ok (.l2i, 1) := by decide +kernel
theorem dX7_times_69 : decode cX7_times 69 = .ok (.ireturn, 1) := by decide +kernel
theorem dX7_need_0 : decode cX7_need 0 = .ok (.iload_n 0, 1) := by decide +kernel
theorem dX7_need_1 : decode cX7_need 1 = .ok (.ifCond .ne 11, 3) := by decide +kernel
theorem dX7_need_4 : decode cX7_need 4 = .ok (.new 150, 3) := by decide +kernel
theorem dX7_need_7 : decode cX7_need 7 = .ok (.dup, 1) := by decide +kernel
theorem dX7_need_8 : decode cX7_need 8 = .ok (.invokespecial 152, 3) := by decide +kernel
theorem dX7_need_11 : decode cX7_need 11 = .ok (.athrow, 1) := by decide +kernel
theorem dX7_need_12 : decode cX7_need 12 = .ok (.return_, 1) := by decide +kernel
theorem dX7_isDirection_0 : decode cX7_isDirection 0 = .ok (.iload_n 0, 1) := by decide +kernel
theorem dX7_isDirection_1 : decode cX7_isDirection 1 = .ok (.ifCond .eq 8, 3) := by decide +kernel
theorem dX7_isDirection_4 : decode cX7_isDirection 4 = .ok (.iload_n 0, 1) := by decide +kernel
theorem dX7_isDirection_5 : decode cX7_isDirection 5 = .ok (.iconst 1, 1) := by decide +kernel
theorem dX7_isDirection_6 : decode cX7_isDirection 6 = .ok (.if_icmp .ne 7, 3) := by decide +kernel
theorem dX7_isDirection_9 : decode cX7_isDirection 9 = .ok (.iconst 1, 1) := by decide +kernel
theorem dX7_isDirection_10 : decode cX7_isDirection 10 = .ok (.goto 4, 3) := by decide +kernel
theorem dX7_isDirection_13 : decode cX7_isDirection 13 = .ok (.iconst 0, 1) := by decide +kernel
theorem dX7_isDirection_14 : decode cX7_isDirection 14 = .ok (.ireturn, 1) := by decide +kernel
theorem dX7_isGive_0 : decode cX7_isGive 0 = .ok (.iload_n 0, 1) := by decide +kernel
theorem dX7_isGive_1 : decode cX7_isGive 1 = .ok (.iconst 1, 1) := by decide +kernel
theorem dX7_isGive_2 : decode cX7_isGive 2 = .ok (.if_icmp .lt 12, 3) := by decide +kernel
theorem dX7_isGive_5 : decode cX7_isGive 5 = .ok (.iload_n 0, 1) := by decide +kernel
theorem dX7_isGive_6 : decode cX7_isGive 6 = .ok (.iconst 3, 1) := by decide +kernel
theorem dX7_isGive_7 : decode cX7_isGive 7 = .ok (.if_icmp .gt 7, 3) := by decide +kernel
theorem dX7_isGive_10 : decode cX7_isGive 10 = .ok (.iconst 1, 1) := by decide +kernel
theorem dX7_isGive_11 : decode cX7_isGive 11 = .ok (.goto 4, 3) := by decide +kernel
theorem dX7_isGive_14 : decode cX7_isGive 14 = .ok (.iconst 0, 1) := by decide +kernel
theorem dX7_isGive_15 : decode cX7_isGive 15 = .ok (.ireturn, 1) := by decide +kernel
theorem dX7_isLoad_0 : decode cX7_isLoad 0 = .ok (.iload_n 0, 1) := by decide +kernel
theorem dX7_isLoad_1 : decode cX7_isLoad 1 = .ok (.bipush (-9), 2) := by decide +kernel
theorem dX7_isLoad_3 : decode cX7_isLoad 3 = .ok (.if_icmp .lt 13, 3) := by decide +kernel
theorem dX7_isLoad_6 : decode cX7_isLoad 6 = .ok (.iload_n 0, 1) := by decide +kernel
theorem dX7_isLoad_7 : decode cX7_isLoad 7 = .ok (.bipush 9, 2) := by decide +kernel
theorem dX7_isLoad_9 : decode cX7_isLoad 9 = .ok (.if_icmp .gt 7, 3) := by decide +kernel
theorem dX7_isLoad_12 : decode cX7_isLoad 12 = .ok (.iconst 1, 1) := by decide +kernel
theorem dX7_isLoad_13 : decode cX7_isLoad 13 = .ok (.goto 4, 3) := by decide +kernel
theorem dX7_isLoad_16 : decode cX7_isLoad 16 = .ok (.iconst 0, 1) := by decide +kernel
theorem dX7_isLoad_17 : decode cX7_isLoad 17 = .ok (.ireturn, 1) := by decide +kernel
theorem dX7_has_0 : decode cX7_has 0 = .ok (.iload_n 0, 1) := by decide +kernel
theorem dX7_has_1 : decode cX7_has 1 = .ok (.iload_n 1, 1) := by decide +kernel
theorem dX7_has_2 : decode cX7_has 2 = .ok (.ishr, 1) := by decide +kernel
theorem dX7_has_3 : decode cX7_has 3 = .ok (.iconst 1, 1) := by decide +kernel
theorem dX7_has_4 : decode cX7_has 4 = .ok (.iand, 1) := by decide +kernel
theorem dX7_has_5 : decode cX7_has 5 = .ok (.iconst 1, 1) := by decide +kernel
theorem dX7_has_6 : decode cX7_has 6 = .ok (.if_icmp .ne 7, 3) := by decide +kernel
theorem dX7_has_9 : decode cX7_has 9 = .ok (.iconst 1, 1) := by decide +kernel
theorem dX7_has_10 : decode cX7_has 10 = .ok (.goto 4, 3) := by decide +kernel
theorem dX7_has_13 : decode cX7_has 13 = .ok (.iconst 0, 1) := by decide +kernel
theorem dX7_has_14 : decode cX7_has 14 = .ok (.ireturn, 1) := by decide +kernel
theorem dX7_quotient_0 : decode cX7_quotient 0 = .ok (.lload_n 2, 1) := by decide +kernel
theorem dX7_quotient_1 : decode cX7_quotient 1 = .ok (.lconst 0, 1) := by decide +kernel
theorem dX7_quotient_2 : decode cX7_quotient 2 = .ok (.lcmp, 1) := by decide +kernel
theorem dX7_quotient_3 : decode cX7_quotient 3 = .ok (.ifCond .ne 7, 3) := by decide +kernel
theorem dX7_quotient_6 : decode cX7_quotient 6 = .ok (.lconst 0, 1) := by decide +kernel
theorem dX7_quotient_7 : decode cX7_quotient 7 = .ok (.goto 6, 3) := by decide +kernel
theorem dX7_quotient_10 : decode cX7_quotient 10 = .ok (.lload_n 0, 1) := by decide +kernel
theorem dX7_quotient_11 : decode cX7_quotient 11 = .ok (.lload_n 2, 1) := by decide +kernel
theorem dX7_quotient_12 : decode cX7_quotient 12 = .ok (.ldiv, 1) := by decide +kernel
theorem dX7_quotient_13 : decode cX7_quotient 13 = .ok (.lreturn, 1) := by decide +kernel
set_option maxRecDepth 20000 in
theorem ggX7_isFreePlace_X3_hasPinAt : GoodIn wsX7_isFreePlace wsX3_hasPinAt := goodIn_r _ [6, 7, 8, 16, 17, 18, 19, 20, 21, 22, 23, 24, 25] (by decide +kernel) (by decide +kernel)
set_option maxRecDepth 20000 in
theorem gX7_isFreePlace_X3_hasPinAt : GoodIn wsX7_isFreePlace (wsV RX7 271 RX3 yX3_hasPinAt wsX3_hasPinAt) := goodIn_app (goodIn_of _ (by decide +kernel)) ggX7_isFreePlace_X3_hasPinAt
theorem dX7_isFreePlace_0 : decode cX7_isFreePlace 0 = .ok (.iload_n 1, 1) := by decide +kernel
theorem dX7_isFreePlace_1 : decode cX7_isFreePlace 1 = .ok (.ifCond .lt 21, 3) := by decide +kernel
theorem dX7_isFreePlace_4 : decode cX7_isFreePlace 4 = .ok (.iload_n 1, 1) := by decide +kernel
theorem dX7_isFreePlace_5 : decode cX7_isFreePlace 5 = .ok (.iconst 4, 1) := by decide +kernel
theorem dX7_isFreePlace_6 : decode cX7_isFreePlace 6 = .ok (.if_icmp .ge 16, 3) := by decide +kernel
theorem dX7_isFreePlace_9 : decode cX7_isFreePlace 9 = .ok (.iload_n 2, 1) := by decide +kernel
theorem dX7_isFreePlace_10 : decode cX7_isFreePlace 10 = .ok (.ifCond .lt 12, 3) := by decide +kernel
theorem dX7_isFreePlace_13 : decode cX7_isFreePlace 13 = .ok (.iload_n 2, 1) := by decide +kernel
theorem dX7_isFreePlace_14 : decode cX7_isFreePlace 14 = .ok (.iconst 3, 1) := by decide +kernel
theorem dX7_isFreePlace_15 : decode cX7_isFreePlace 15 = .ok (.if_icmp .ge 7, 3) := by decide +kernel
theorem dX7_isFreePlace_18 : decode cX7_isFreePlace 18 = .ok (.iconst 1, 1) := by decide +kernel
theorem dX7_isFreePlace_19 : decode cX7_isFreePlace 19 = .ok (.goto 4, 3) := by decide +kernel
theorem dX7_isFreePlace_22 : decode cX7_isFreePlace 22 = .ok (.iconst 0, 1) := by decide +kernel
theorem dX7_isFreePlace_23 : decode cX7_isFreePlace 23 = .ok (.istore_n 3, 1) := by decide +kernel
theorem dX7_isFreePlace_24 : decode cX7_isFreePlace 24 = .ok (.iload_n 3, 1) := by decide +kernel
theorem dX7_isFreePlace_25 : decode cX7_isFreePlace 25 = .ok (.ifCond .eq 19, 3) := by decide +kernel
theorem dX7_isFreePlace_28 : decode cX7_isFreePlace 28 = .ok (.aload_n 0, 1) := by decide +kernel
theorem dX7_isFreePlace_29 : decode cX7_isFreePlace 29 = .ok (.getfield 17, 3) := by decide +kernel
theorem dX7_isFreePlace_32 : decode cX7_isFreePlace 32 = .ok (.iload_n 1, 1) := by decide +kernel
theorem dX7_isFreePlace_33 : decode cX7_isFreePlace 33 = .ok (.iload_n 2, 1) := by decide +kernel
theorem dX7_isFreePlace_34 : decode cX7_isFreePlace 34 = .ok (.invokevirtual 271, 3) := by decide +kernel
theorem dX7_isFreePlace_37 : decode cX7_isFreePlace 37 = .ok (.ifCond .ne 7, 3) := by decide +kernel
theorem dX7_isFreePlace_40 : decode cX7_isFreePlace 40 = .ok (.iconst 1, 1) := by decide +kernel
theorem dX7_isFreePlace_41 : decode cX7_isFreePlace 41 = .ok (.goto 4, 3) := by decide +kernel
theorem dX7_isFreePlace_44 : decode cX7_isFreePlace 44 = .ok (.iconst 0, 1) := by decide +kernel
theorem dX7_isFreePlace_45 : decode cX7_isFreePlace 45 = .ok (.ireturn, 1) := by decide +kernel
set_option maxRecDepth 20000 in
theorem ggX7_countOfBalance_X0_settle : GoodIn wsX7_countOfBalance wsX0_settle := goodIn_r _ [12, 13, 14, 15, 16, 17, 18, 19, 20, 11, 21, 22, 23, 24, 25, 26, 27, 28, 29, 30, 31, 32, 33, 34, 35, 36, 37, 38, 39, 40, 41, 42, 43, 44, 45, 46, 47, 48, 49, 50, 51, 52, 53, 54, 55, 56, 57, 58, 59, 60, 61, 94, 95, 96, 97, 98, 99, 100, 101, 102, 84, 85, 86, 87, 88, 89, 90, 91, 92, 93] (by decide +kernel) (by decide +kernel)
set_option maxRecDepth 20000 in
theorem gX7_countOfBalance_X0_settle : GoodIn wsX7_countOfBalance (wsV RX7 159 RX0 yX0_settle wsX0_settle) := goodIn_app (goodIn_of _ (by decide +kernel)) ggX7_countOfBalance_X0_settle
set_option maxRecDepth 20000 in
theorem ggX7_countOfBalance_X0_kindNumber : GoodIn wsX7_countOfBalance wsX0_kindNumber := goodIn_r _ [65, 14, 13, 16, 66, 67, 68, 69, 70, 71, 72, 73, 74, 75, 76, 94, 95, 96, 97, 98, 99, 100, 101, 102] (by decide +kernel) (by decide +kernel)
set_option maxRecDepth 20000 in
theorem gX7_countOfBalance_X0_kindNumber : GoodIn wsX7_countOfBalance (wsV RX7 253 RX0 yX0_kindNumber wsX0_kindNumber) := goodIn_app (goodIn_of _ (by decide +kernel)) ggX7_countOfBalance_X0_kindNumber
theorem dX7_countOfBalance_0 : decode cX7_countOfBalance 0 = .ok (.aload_n 0, 1) := by decide +kernel
theorem dX7_countOfBalance_1 : decode cX7_countOfBalance 1 = .ok (.getfield 21, 3) := by decide +kernel
theorem dX7_countOfBalance_4 : decode cX7_countOfBalance 4 = .ok (.aload_n 0, 1) := by decide +kernel
theorem dX7_countOfBalance_5 : decode cX7_countOfBalance 5 = .ok (.getfield 17, 3) := by decide +kernel
theorem dX7_countOfBalance_8 : decode cX7_countOfBalance 8 = .ok (.getfield 97, 3) := by decide +kernel
theorem dX7_countOfBalance_11 : decode cX7_countOfBalance 11 = .ok (.invokevirtual 159, 3) := by decide +kernel
theorem dX7_countOfBalance_14 : decode cX7_countOfBalance 14 = .ok (.iload_n 1, 1) := by decide +kernel
theorem dX7_countOfBalance_15 : decode cX7_countOfBalance 15 = .ok (.tableswitch 81 3 7 #[33, 41, 49, 57, 65], 33) := by decide +kernel
theorem dX7_countOfBalance_48 : decode cX7_countOfBalance 48 = .ok (.aload_n 0, 1) := by decide +kernel
theorem dX7_countOfBalance_49 : decode cX7_countOfBalance 49 = .ok (.getfield 21, 3) := by decide +kernel
theorem dX7_countOfBalance_52 : decode cX7_countOfBalance 52 = .ok (.getfield 274, 3) := by decide +kernel
theorem dX7_countOfBalance_55 : decode cX7_countOfBalance 55 = .ok (.ireturn, 1) := by decide +kernel
theorem dX7_countOfBalance_56 : decode cX7_countOfBalance 56 = .ok (.aload_n 0, 1) := by decide +kernel
theorem dX7_countOfBalance_57 : decode cX7_countOfBalance 57 = .ok (.getfield 21, 3) := by decide +kernel
theorem dX7_countOfBalance_60 : decode cX7_countOfBalance 60 = .ok (.invokevirtual 253, 3) := by decide +kernel
theorem dX7_countOfBalance_63 : decode cX7_countOfBalance 63 = .ok (.ireturn, 1) := by decide +kernel
theorem dX7_countOfBalance_64 : decode cX7_countOfBalance 64 = .ok (.aload_n 0, 1) := by decide +kernel
theorem dX7_countOfBalance_65 : decode cX7_countOfBalance 65 = .ok (.getfield 21, 3) := by decide +kernel
theorem dX7_countOfBalance_68 : decode cX7_countOfBalance 68 = .ok (.getfield 263, 3) := by decide +kernel
theorem dX7_countOfBalance_71 : decode cX7_countOfBalance 71 = .ok (.ireturn, 1) := by decide +kernel
theorem dX7_countOfBalance_72 : decode cX7_countOfBalance 72 = .ok (.aload_n 0, 1) := by decide +kernel
theorem dX7_countOfBalance_73 : decode cX7_countOfBalance 73 = .ok (.getfield 21, 3) := by decide +kernel
theorem dX7_countOfBalance_76 : decode cX7_countOfBalance 76 = .ok (.getfield 277, 3) := by decide +kernel
theorem dX7_countOfBalance_79 : decode cX7_countOfBalance 79 = .ok (.ireturn, 1) := by decide +kernel
theorem dX7_countOfBalance_80 : decode cX7_countOfBalance 80 = .ok (.aload_n 0, 1) := by decide +kernel
theorem dX7_countOfBalance_81 : decode cX7_countOfBalance 81 = .ok (.getfield 21, 3) := by decide +kernel
theorem dX7_countOfBalance_84 : decode cX7_countOfBalance 84 = .ok (.getfield 274, 3) := by decide +kernel
theorem dX7_countOfBalance_87 : decode cX7_countOfBalance 87 = .ok (.aload_n 0, 1) := by decide +kernel
theorem dX7_countOfBalance_88 : decode cX7_countOfBalance 88 = .ok (.getfield 21, 3) := by decide +kernel
theorem dX7_countOfBalance_91 : decode cX7_countOfBalance 91 = .ok (.getfield 280, 3) := by decide +kernel
theorem dX7_countOfBalance_94 : decode cX7_countOfBalance 94 = .ok (.isub, 1) := by decide +kernel
theorem dX7_countOfBalance_95 : decode cX7_countOfBalance 95 = .ok (.ireturn, 1) := by decide +kernel
theorem dX7_countOfBalance_96 : decode cX7_countOfBalance 96 = .ok (.iconst (-1), 1) := by decide +kernel
theorem dX7_countOfBalance_97 : decode cX7_countOfBalance 97 = .ok (.ireturn, 1) := by decide +kernel
set_option maxRecDepth 20000 in
theorem ggX7_bears_X0_settle : GoodIn wsX7_bears wsX0_settle := goodIn_r _ [7, 8, 9, 10, 11, 12, 13, 14, 15, 6, 16, 17, 18, 19, 20, 21, 22, 23, 24, 25, 26, 27, 28, 29, 30, 31, 32, 33, 34, 35, 36, 37, 38, 39, 40, 41, 42, 43, 44, 45, 46, 47, 48, 49, 50, 51, 52, 53, 54, 55, 56, 124, 125, 126, 127, 128, 129, 130, 131, 132, 133, 134, 135, 136, 137, 138, 139, 140, 141, 142] (by decide +kernel) (by decide +kernel)
set_option maxRecDepth 20000 in
theorem gX7_bears_X0_settle : GoodIn wsX7_bears (wsV RX7 159 RX0 yX0_settle wsX0_settle) := goodIn_app (goodIn_of _ (by decide +kernel)) ggX7_bears_X0_settle
set_option maxRecDepth 20000 in
theorem ggX7_bears_X0_kindNumber : GoodIn wsX7_bears wsX0_kindNumber := goodIn_r _ [60, 9, 8, 11, 61, 62, 63, 64, 65, 66, 67, 68, 69, 70, 71, 124, 125, 126, 127, 128, 129, 130, 131, 132] (by decide +kernel) (by decide +kernel)
set_option maxRecDepth 20000 in
theorem gX7_bears_X0_kindNumber : GoodIn wsX7_bears (wsV RX7 253 RX0 yX0_kindNumber wsX0_kindNumber) := goodIn_app (goodIn_of _ (by decide +kernel)) ggX7_bears_X0_kindNumber
set_option maxRecDepth 20000 in
theorem ggX7_bears_X5_prepare : GoodIn wsX7_bears wsX5_prepare := goodIn_r _ [76, 77, 78, 79, 80, 81, 82, 83, 39, 40, 41, 84, 85, 86, 75, 87, 88, 89, 90, 91, 92, 93, 94, 95, 96, 97, 98, 99, 100, 101, 102, 103, 104, 105, 106, 107, 108, 109, 110, 55, 56, 143, 144, 145, 146, 147, 148, 149, 133, 134, 135, 136, 137, 138, 139, 140, 141, 142, 124, 125, 126, 127, 128, 129, 130, 131, 132] (by decide +kernel) (by decide +kernel)
set_option maxRecDepth 20000 in
theorem gX7_bears_X5_prepare : GoodIn wsX7_bears (wsV RX7 283 RX5 yX5_prepare wsX5_prepare) := goodIn_app (goodIn_of _ (by decide +kernel)) ggX7_bears_X5_prepare
set_option maxRecDepth 20000 in
theorem ggX7_bears_X5_bear : GoodIn wsX7_bears wsX5_bear := goodIn_r _ [114, 101, 80, 89, 115, 91, 78, 79, 116, 90, 143, 144, 145, 146, 147, 148, 149, 124, 125, 126, 127, 128, 129, 130, 131, 132, 133, 134, 135, 136, 137, 138, 139, 140, 141, 142] (by decide +kernel) (by decide +kernel)
set_option maxRecDepth 20000 in
theorem gX7_bears_X5_bear : GoodIn wsX7_bears (wsV RX7 245 RX5 yX5_bear wsX5_bear) := goodIn_app (goodIn_of _ (by decide +kernel)) ggX7_bears_X5_bear
theorem dX7_bears_0 : decode cX7_bears 0 = .ok (.aload_n 0, 1) := by decide +kernel
theorem dX7_bears_1 : decode cX7_bears 1 = .ok (.getfield 21, 3) := by decide +kernel
theorem dX7_bears_4 : decode cX7_bears 4 = .ok (.iload_n 1, 1) := by decide +kernel
theorem dX7_bears_5 : decode cX7_bears 5 = .ok (.invokevirtual 159, 3) := by decide +kernel
theorem dX7_bears_8 : decode cX7_bears 8 = .ok (.aload_n 0, 1) := by decide +kernel
theorem dX7_bears_9 : decode cX7_bears 9 = .ok (.getfield 21, 3) := by decide +kernel
theorem dX7_bears_12 : decode cX7_bears 12 = .ok (.invokevirtual 253, 3) := by decide +kernel
theorem dX7_bears_15 : decode cX7_bears 15 = .ok (.istore_n 3, 1) := by decide +kernel
theorem dX7_bears_16 : decode cX7_bears 16 = .ok (.iload_n 3, 1) := by decide +kernel
theorem dX7_bears_17 : decode cX7_bears 17 = .ok (.ifCond .eq 8, 3) := by decide +kernel
theorem dX7_bears_20 : decode cX7_bears 20 = .ok (.iload_n 3, 1) := by decide +kernel
theorem dX7_bears_21 : decode cX7_bears 21 = .ok (.iconst 4, 1) := by decide +kernel
theorem dX7_bears_22 : decode cX7_bears 22 = .ok (.if_icmp .ne 5, 3) := by decide +kernel
theorem dX7_bears_25 : decode cX7_bears 25 = .ok (.iconst 0, 1) := by decide +kernel
theorem dX7_bears_26 : decode cX7_bears 26 = .ok (.ireturn, 1) := by decide +kernel
theorem dX7_bears_27 : decode cX7_bears 27 = .ok (.aload_n 0, 1) := by decide +kernel
theorem dX7_bears_28 : decode cX7_bears 28 = .ok (.getfield 30, 3) := by decide +kernel
theorem dX7_bears_31 : decode cX7_bears 31 = .ok (.invokevirtual 283, 3) := by decide +kernel
theorem dX7_bears_34 : decode cX7_bears 34 = .ok (.aload_n 0, 1) := by decide +kernel
theorem dX7_bears_35 : decode cX7_bears 35 = .ok (.getfield 30, 3) := by decide +kernel
theorem dX7_bears_38 : decode cX7_bears 38 = .ok (.aload_n 2, 1) := by decide +kernel
theorem dX7_bears_39 : decode cX7_bears 39 = .ok (.invokevirtual 245, 3) := by decide +kernel
theorem dX7_bears_42 : decode cX7_bears 42 = .ok (.iconst 1, 1) := by decide +kernel
theorem dX7_bears_43 : decode cX7_bears 43 = .ok (.ireturn, 1) := by decide +kernel
set_option maxRecDepth 20000 in
theorem ggX7_told_X2_reduce : GoodIn wsX7_told wsX2_reduce := goodIn_r _ [8, 9, 10, 11, 12, 13, 14, 15, 16, 7, 17, 18, 19, 20, 28, 29] (by decide +kernel) (by decide +kernel)
set_option maxRecDepth 20000 in
theorem gX7_told_X2_reduce : GoodIn wsX7_told (wsV RX7 286 RX2 yX2_reduce wsX2_reduce) := goodIn_app (goodIn_of _ (by decide +kernel)) ggX7_told_X2_reduce
theorem dX7_told_0 : decode cX7_told 0 = .ok (.aload_n 0, 1) := by decide +kernel
theorem dX7_told_1 : decode cX7_told 1 = .ok (.getfield 58, 3) := by decide +kernel
theorem dX7_told_4 : decode cX7_told 4 = .ok (.lload_n 1, 1) := by decide +kernel
theorem dX7_told_5 : decode cX7_told 5 = .ok (.lload_n 3, 1) := by decide +kernel
theorem dX7_told_6 : decode cX7_told 6 = .ok (.invokevirtual 286, 3) := by decide +kernel
theorem dX7_told_9 : decode cX7_told 9 = .ok (.iload 5, 2) := by decide +kernel
theorem dX7_told_11 : decode cX7_told 11 = .ok (.ifCond .eq 13, 3) := by decide +kernel
theorem dX7_told_14 : decode cX7_told 14 = .ok (.aload_n 0, 1) := by decide +kernel
theorem dX7_told_15 : decode cX7_told 15 = .ok (.getfield 58, 3) := by decide +kernel
theorem dX7_told_18 : decode cX7_told 18 = .ok (.getfield 290, 3) := by decide +kernel
theorem dX7_told_21 : decode cX7_told 21 = .ok (.goto 10, 3) := by decide +kernel
theorem dX7_told_24 : decode cX7_told 24 = .ok (.aload_n 0, 1) := by decide +kernel
theorem dX7_told_25 : decode cX7_told 25 = .ok (.getfield 58, 3) := by decide +kernel
theorem dX7_told_28 : decode cX7_told 28 = .ok (.getfield 291, 3) := by decide +kernel
theorem dX7_told_31 : decode cX7_told 31 = .ok (.lreturn, 1) := by decide +kernel
set_option maxRecDepth 20000 in
theorem ggX7_toldPull_X5_overOf : GoodIn wsX7_toldPull wsX5_overOf := goodIn_r _ [7, 8, 9, 10, 11, 12, 6, 13, 14, 15, 16, 17, 18, 19, 20, 21, 22, 23, 24, 25, 26, 27, 56, 57, 58, 59, 60, 61, 62, 63, 64, 65, 66, 67, 68, 69, 70, 71, 72, 73, 74, 75, 76, 77, 78, 79, 80, 81] (by decide +kernel) (by decide +kernel)
set_option maxRecDepth 20000 in
theorem gX7_toldPull_X5_overOf : GoodIn wsX7_toldPull (wsV RX7 199 RX5 yX5_overOf wsX5_overOf) := goodIn_app (goodIn_of _ (by decide +kernel)) ggX7_toldPull_X5_overOf
set_option maxRecDepth 20000 in
theorem ggX7_toldPull_X7_told : GoodIn wsX7_toldPull wsX7_told := goodIn_r _ [31, 32, 33, 34, 35, 36, 37, 38, 39, 40, 41, 42, 43, 44, 45, 46, 47, 48, 20, 21, 22, 49, 50, 51, 52, 53, 54, 55, 82, 83] (by decide +kernel) (by decide +kernel)
set_option maxRecDepth 20000 in
theorem gX7_toldPull_X7_told : GoodIn wsX7_toldPull (wsV RX7 185 RX7 yX7_told wsX7_told) := goodIn_app (goodIn_of _ (by decide +kernel)) ggX7_toldPull_X7_told
theorem dX7_toldPull_0 : decode cX7_toldPull 0 = .ok (.aload_n 0, 1) := by decide +kernel
theorem dX7_toldPull_1 : decode cX7_toldPull 1 = .ok (.aload_n 0, 1) := by decide +kernel
theorem dX7_toldPull_2 : decode cX7_toldPull 2 = .ok (.getfield 30, 3) := by decide +kernel
theorem dX7_toldPull_5 : decode cX7_toldPull 5 = .ok (.iload_n 1, 1) := by decide +kernel
theorem dX7_toldPull_6 : decode cX7_toldPull 6 = .ok (.invokevirtual 199, 3) := by decide +kernel
theorem dX7_toldPull_9 : decode cX7_toldPull 9 = .ok (.aload_n 0, 1) := by decide +kernel
theorem dX7_toldPull_10 : decode cX7_toldPull 10 = .ok (.getfield 30, 3) := by decide +kernel
theorem dX7_toldPull_13 : decode cX7_toldPull 13 = .ok (.getfield 192, 3) := by decide +kernel
theorem dX7_toldPull_16 : decode cX7_toldPull 16 = .ok (.iload_n 2, 1) := by decide +kernel
theorem dX7_toldPull_17 : decode cX7_toldPull 17 = .ok (.invokevirtual 185, 3) := by decide +kernel
theorem dX7_toldPull_20 : decode cX7_toldPull 20 = .ok (.lreturn, 1) := by decide +kernel
set_option maxRecDepth 20000 in
theorem ggX7_isPainted_X5_overOf : GoodIn wsX7_isPainted wsX5_overOf := goodIn_r _ [16, 17, 18, 19, 20, 21, 15, 22, 23, 24, 25, 26, 27, 28, 29, 30, 31, 32, 33, 34, 35, 36, 55, 56, 57, 58, 59, 60, 61, 64, 65, 66, 67, 68, 69, 70, 71, 72, 73, 74, 75, 76, 77, 78, 79, 80, 81, 82] (by decide +kernel) (by decide +kernel)
set_option maxRecDepth 20000 in
theorem gX7_isPainted_X5_overOf : GoodIn wsX7_isPainted (wsV RX7 199 RX5 yX5_overOf wsX5_overOf) := goodIn_app (goodIn_of _ (by decide +kernel)) ggX7_isPainted_X5_overOf
set_option maxRecDepth 20000 in
theorem ggX7_isPainted_X2_reduce : GoodIn wsX7_isPainted wsX2_reduce := goodIn_r _ [41, 42, 6, 7, 8, 43, 44, 45, 46, 40, 47, 29, 30, 31, 62, 63] (by decide +kernel) (by decide +kernel)
set_option maxRecDepth 20000 in
theorem gX7_isPainted_X2_reduce : GoodIn wsX7_isPainted (wsV RX7 286 RX2 yX2_reduce wsX2_reduce) := goodIn_app (goodIn_of _ (by decide +kernel)) ggX7_isPainted_X2_reduce
theorem dX7_isPainted_0 : decode cX7_isPainted 0 = .ok (.aload_n 0, 1) := by decide +kernel
theorem dX7_isPainted_1 : decode cX7_isPainted 1 = .ok (.getfield 58, 3) := by decide +kernel
theorem dX7_isPainted_4 : decode cX7_isPainted 4 = .ok (.aload_n 0, 1) := by decide +kernel
theorem dX7_isPainted_5 : decode cX7_isPainted 5 = .ok (.getfield 30, 3) := by decide +kernel
theorem dX7_isPainted_8 : decode cX7_isPainted 8 = .ok (.iload_n 1, 1) := by decide +kernel
theorem dX7_isPainted_9 : decode cX7_isPainted 9 = .ok (.invokevirtual 199, 3) := by decide +kernel
theorem dX7_isPainted_12 : decode cX7_isPainted 12 = .ok (.aload_n 0, 1) := by decide +kernel
theorem dX7_isPainted_13 : decode cX7_isPainted 13 = .ok (.getfield 30, 3) := by decide +kernel
theorem dX7_isPainted_16 : decode cX7_isPainted 16 = .ok (.getfield 192, 3) := by decide +kernel
theorem dX7_isPainted_19 : decode cX7_isPainted 19 = .ok (.invokevirtual 286, 3) := by decide +kernel
theorem dX7_isPainted_22 : decode cX7_isPainted 22 = .ok (.iload_n 2, 1) := by decide +kernel
theorem dX7_isPainted_23 : decode cX7_isPainted 23 = .ok (.tableswitch 79 (-1) 1 #[43, 61, 25], 25) := by decide +kernel
theorem dX7_isPainted_48 : decode cX7_isPainted 48 = .ok (.aload_n 0, 1) := by decide +kernel
theorem dX7_isPainted_49 : decode cX7_isPainted 49 = .ok (.getfield 58, 3) := by decide +kernel
theorem dX7_isPainted_52 : decode cX7_isPainted 52 = .ok (.getfield 291, 3) := by decide +kernel
theorem dX7_isPainted_55 : decode cX7_isPainted 55 = .ok (.lconst 0, 1) := by decide +kernel
theorem dX7_isPainted_56 : decode cX7_isPainted 56 = .ok (.lcmp, 1) := by decide +kernel
theorem dX7_isPainted_57 : decode cX7_isPainted 57 = .ok (.ifCond .le 7, 3) := by decide +kernel
theorem dX7_isPainted_60 : decode cX7_isPainted 60 = .ok (.iconst 1, 1) := by decide +kernel
theorem dX7_isPainted_61 : decode cX7_isPainted 61 = .ok (.goto 4, 3) := by decide +kernel
theorem dX7_isPainted_64 : decode cX7_isPainted 64 = .ok (.iconst 0, 1) := by decide +kernel
theorem dX7_isPainted_65 : decode cX7_isPainted 65 = .ok (.ireturn, 1) := by decide +kernel
theorem dX7_isPainted_66 : decode cX7_isPainted 66 = .ok (.aload_n 0, 1) := by decide +kernel
theorem dX7_isPainted_67 : decode cX7_isPainted 67 = .ok (.getfield 58, 3) := by decide +kernel
theorem dX7_isPainted_70 : decode cX7_isPainted 70 = .ok (.getfield 291, 3) := by decide +kernel
theorem dX7_isPainted_73 : decode cX7_isPainted 73 = .ok (.lconst 0, 1) := by decide +kernel
theorem dX7_isPainted_74 : decode cX7_isPainted 74 = .ok (.lcmp, 1) := by decide +kernel
theorem dX7_isPainted_75 : decode cX7_isPainted 75 = .ok (.ifCond .ge 7, 3) := by decide +kernel
theorem dX7_isPainted_78 : decode cX7_isPainted 78 = .ok (.iconst 1, 1) := by decide +kernel
theorem dX7_isPainted_79 : decode cX7_isPainted 79 = .ok (.goto 4, 3) := by decide +kernel
theorem dX7_isPainted_82 : decode cX7_isPainted 82 = .ok (.iconst 0, 1) := by decide +kernel
theorem dX7_isPainted_83 : decode cX7_isPainted 83 = .ok (.ireturn, 1) := by decide +kernel
theorem dX7_isPainted_84 : decode cX7_isPainted 84 = .ok (.aload_n 0, 1) := by decide +kernel
theorem dX7_isPainted_85 : decode cX7_isPainted 85 = .ok (.getfield 58, 3) := by decide +kernel
theorem dX7_isPainted_88 : decode cX7_isPainted 88 = .ok (.getfield 291, 3) := by decide +kernel
theorem dX7_isPainted_91 : decode cX7_isPainted 91 = .ok (.lconst 0, 1) := by decide +kernel
theorem dX7_isPainted_92 : decode cX7_isPainted 92 = .ok (.lcmp, 1) := by decide +kernel
theorem dX7_isPainted_93 : decode cX7_isPainted 93 = .ok (.ifCond .ne 7, 3) := by decide +kernel
theorem dX7_isPainted_96 : decode cX7_isPainted 96 = .ok (.iconst 1, 1) := by decide +kernel
theorem dX7_isPainted_97 : decode cX7_isPainted 97 = .ok (.goto 4, 3) := by decide +kernel
theorem dX7_isPainted_100 : decode cX7_isPainted 100 = .ok (.iconst 0, 1) := by decide +kernel
theorem dX7_isPainted_101 : decode cX7_isPainted 101 = .ok (.ireturn, 1) := by decide +kernel
theorem dX7_isPainted_102 : decode cX7_isPainted 102 = .ok (.aload_n 0, 1) := by decide +kernel
theorem dX7_isPainted_103 : decode cX7_isPainted 103 = .ok (.getfield 58, 3) := by decide +kernel
theorem dX7_isPainted_106 : decode cX7_isPainted 106 = .ok (.getfield 291, 3) := by decide +kernel
theorem dX7_isPainted_109 : decode cX7_isPainted 109 = .ok (.invokestatic 249, 3) := by decide +kernel
theorem dX7_isPainted_112 : decode cX7_isPainted 112 = .ok (.aload_n 0, 1) := by decide +kernel
theorem dX7_isPainted_113 : decode cX7_isPainted 113 = .ok (.getfield 17, 3) := by decide +kernel
theorem dX7_isPainted_116 : decode cX7_isPainted 116 = .ok (.getfield 100, 3) := by decide +kernel
theorem dX7_isPainted_119 : decode cX7_isPainted 119 = .ok (.iload_n 1, 1) := by decide +kernel
theorem dX7_isPainted_120 : decode cX7_isPainted 120 = .ok (.iaload, 1) := by decide +kernel
theorem dX7_isPainted_121 : decode cX7_isPainted 121 = .ok (.i2l, 1) := by decide +kernel
theorem dX7_isPainted_122 : decode cX7_isPainted 122 = .ok (.aload_n 0, 1) := by decide +kernel
theorem dX7_isPainted_123 : decode cX7_isPainted 123 = .ok (.getfield 58, 3) := by decide +kernel
theorem dX7_isPainted_126 : decode cX7_isPainted 126 = .ok (.getfield 290, 3) := by decide +kernel
theorem dX7_isPainted_129 : decode cX7_isPainted 129 = .ok (.lmul, 1) := by decide +kernel
theorem dX7_isPainted_130 : decode cX7_isPainted 130 = .ok (.lcmp, 1) := by decide +kernel
theorem dX7_isPainted_131 : decode cX7_isPainted 131 = .ok (.ifCond .le 7, 3) := by decide +kernel
theorem dX7_isPainted_134 : decode cX7_isPainted 134 = .ok (.iconst 1, 1) := by decide +kernel
theorem dX7_isPainted_135 : decode cX7_isPainted 135 = .ok (.goto 4, 3) := by decide +kernel
theorem dX7_isPainted_138 : decode cX7_isPainted 138 = .ok (.iconst 0, 1) := by decide +kernel
theorem dX7_isPainted_139 : decode cX7_isPainted 139 = .ok (.ireturn, 1) := by decide +kernel
set_option maxRecDepth 20000 in
theorem ggX7_timesOf_X5_overOf : GoodIn wsX7_timesOf wsX5_overOf := goodIn_r _ [17, 18, 19, 20, 21, 22, 16, 23, 24, 25, 26, 27, 28, 29, 30, 31, 32, 33, 34, 35, 36, 37, 57, 58, 59, 60, 61, 62, 63, 66, 67, 68, 69, 70, 71, 72, 73, 74, 75, 76, 77, 78, 79, 80, 81, 82, 83, 84] (by decide +kernel) (by decide +kernel)
set_option maxRecDepth 20000 in
theorem gX7_timesOf_X5_overOf : GoodIn wsX7_timesOf (wsV RX7 199 RX5 yX5_overOf wsX5_overOf) := goodIn_app (goodIn_of _ (by decide +kernel)) ggX7_timesOf_X5_overOf
set_option maxRecDepth 20000 in
theorem ggX7_timesOf_X2_reduce : GoodIn wsX7_timesOf wsX2_reduce := goodIn_r _ [42, 43, 6, 7, 8, 44, 45, 46, 47, 41, 48, 30, 31, 32, 64, 65] (by decide +kernel) (by decide +kernel)
set_option maxRecDepth 20000 in
theorem gX7_timesOf_X2_reduce : GoodIn wsX7_timesOf (wsV RX7 286 RX2 yX2_reduce wsX2_reduce) := goodIn_app (goodIn_of _ (by decide +kernel)) ggX7_timesOf_X2_reduce
set_option maxRecDepth 20000 in
theorem ggX7_timesOf_X7_quotient : GoodIn wsX7_timesOf wsX7_quotient := goodIn_r _ [32] (by decide +kernel) (by decide +kernel)
set_option maxRecDepth 20000 in
theorem gX7_timesOf_X7_quotient : GoodIn wsX7_timesOf (va_wsS RX7 294 yX7_quotient wsX7_quotient) := goodIn_app (goodIn_of _ (by decide +kernel)) ggX7_timesOf_X7_quotient
theorem dX7_timesOf_0 : decode cX7_timesOf 0 = .ok (.aload_n 0, 1) := by decide +kernel
theorem dX7_timesOf_1 : decode cX7_timesOf 1 = .ok (.getfield 58, 3) := by decide +kernel
theorem dX7_timesOf_4 : decode cX7_timesOf 4 = .ok (.aload_n 0, 1) := by decide +kernel
theorem dX7_timesOf_5 : decode cX7_timesOf 5 = .ok (.getfield 30, 3) := by decide +kernel
theorem dX7_timesOf_8 : decode cX7_timesOf 8 = .ok (.iload_n 1, 1) := by decide +kernel
theorem dX7_timesOf_9 : decode cX7_timesOf 9 = .ok (.invokevirtual 199, 3) := by decide +kernel
theorem dX7_timesOf_12 : decode cX7_timesOf 12 = .ok (.aload_n 0, 1) := by decide +kernel
theorem dX7_timesOf_13 : decode cX7_timesOf 13 = .ok (.getfield 30, 3) := by decide +kernel
theorem dX7_timesOf_16 : decode cX7_timesOf 16 = .ok (.getfield 192, 3) := by decide +kernel
theorem dX7_timesOf_19 : decode cX7_timesOf 19 = .ok (.invokevirtual 286, 3) := by decide +kernel
theorem dX7_timesOf_22 : decode cX7_timesOf 22 = .ok (.aload_n 0, 1) := by decide +kernel
theorem dX7_timesOf_23 : decode cX7_timesOf 23 = .ok (.getfield 58, 3) := by decide +kernel
theorem dX7_timesOf_26 : decode cX7_timesOf 26 = .ok (.getfield 291, 3) := by decide +kernel
theorem dX7_timesOf_29 : decode cX7_timesOf 29 = .ok (.invokestatic 249, 3) := by decide +kernel
theorem dX7_timesOf_32 : decode cX7_timesOf 32 = .ok (.aload_n 0, 1) := by decide +kernel
theorem dX7_timesOf_33 : decode cX7_timesOf 33 = .ok (.getfield 58, 3) := by decide +kernel
theorem dX7_timesOf_36 : decode cX7_timesOf 36 = .ok (.getfield 290, 3) := by decide +kernel
theorem dX7_timesOf_39 : decode cX7_timesOf 39 = .ok (.ladd, 1) := by decide +kernel
theorem dX7_timesOf_40 : decode cX7_timesOf 40 = .ok (.lconst 1, 1) := by decide +kernel
theorem dX7_timesOf_41 : decode cX7_timesOf 41 = .ok (.lsub, 1) := by decide +kernel
theorem dX7_timesOf_42 : decode cX7_timesOf 42 = .ok (.aload_n 0, 1) := by decide +kernel
theorem dX7_timesOf_43 : decode cX7_timesOf 43 = .ok (.getfield 58, 3) := by decide +kernel
theorem dX7_timesOf_46 : decode cX7_timesOf 46 = .ok (.getfield 290, 3) := by decide +kernel
theorem dX7_timesOf_49 : decode cX7_timesOf 49 = .ok (.invokestatic 294, 3) := by decide +kernel
theorem dX7_timesOf_52 : decode cX7_timesOf 52 = .ok (.lstore_n 2, 1) := by decide +kernel
theorem dX7_timesOf_53 : decode cX7_timesOf 53 = .ok (.lload_n 2, 1) := by decide +kernel
theorem dX7_timesOf_54 : decode cX7_timesOf 54 = .ok (.lconst 0, 1) := by decide +kernel
theorem dX7_timesOf_55 : decode cX7_timesOf 55 = .ok (.lcmp, 1) := by decide +kernel
theorem dX7_timesOf_56 : decode cX7_timesOf 56 = .ok (.ifCond .ne 9, 3) := by decide +kernel
theorem dX7_timesOf_59 : decode cX7_timesOf 59 = .ok (.ldc2_w 226, 3) := by decide +kernel
theorem dX7_timesOf_62 : decode cX7_timesOf 62 = .ok (.goto 17, 3) := by decide +kernel
theorem dX7_timesOf_65 : decode cX7_timesOf 65 = .ok (.aload_n 0, 1) := by decide +kernel
theorem dX7_timesOf_66 : decode cX7_timesOf 66 = .ok (.getfield 17, 3) := by decide +kernel
theorem dX7_timesOf_69 : decode cX7_timesOf 69 = .ok (.getfield 100, 3) := by decide +kernel
theorem dX7_timesOf_72 : decode cX7_timesOf 72 = .ok (.iload_n 1, 1) := by decide +kernel
theorem dX7_timesOf_73 : decode cX7_timesOf 73 = .ok (.iaload, 1) := by decide +kernel
theorem dX7_timesOf_74 : decode cX7_timesOf 74 = .ok (.i2l, 1) := by decide +kernel
theorem dX7_timesOf_75 : decode cX7_timesOf 75 = .ok (.lload_n 2, 1) := by decide +kernel
theorem dX7_timesOf_76 : decode cX7_timesOf 76 = .ok (.invokestatic 294, 3) := by decide +kernel
theorem dX7_timesOf_79 : decode cX7_timesOf 79 = .ok (.lreturn, 1) := by decide +kernel
