theorem dX7_init_0 : decode cX7_init 0 = .ok (.aload_n 0, 1) := by decide +kernel
theorem dX7_init_1 : decode cX7_init 1 = .ok (.invokespecial 3, 3) := by decide +kernel
theorem dX7_init_4 : decode cX7_init 4 = .ok (.new 9, 3) := by decide +kernel
theorem dX7_init_7 : decode cX7_init 7 = .ok (.dup, 1) := by decide +kernel
theorem dX7_init_8 : decode cX7_init 8 = .ok (.invokespecial 11, 3) := by decide +kernel
theorem dX7_init_11 : decode cX7_init 11 = .ok (.astore_n 1, 1) := by decide +kernel
theorem dX7_init_12 : decode cX7_init 12 = .ok (.new 12, 3) := by decide +kernel
theorem dX7_init_15 : decode cX7_init 15 = .ok (.dup, 1) := by decide +kernel
theorem dX7_init_16 : decode cX7_init 16 = .ok (.aload_n 1, 1) := by decide +kernel
theorem dX7_init_17 : decode cX7_init 17 = .ok (.invokespecial 14, 3) := by decide +kernel
theorem dX7_init_20 : decode cX7_init 20 = .ok (.astore_n 2, 1) := by decide +kernel
theorem dX7_init_21 : decode cX7_init 21 = .ok (.aload_n 0, 1) := by decide +kernel
theorem dX7_init_22 : decode cX7_init 22 = .ok (.aload_n 1, 1) := by decide +kernel
theorem dX7_init_23 : decode cX7_init 23 = .ok (.putfield 17, 3) := by decide +kernel
theorem dX7_init_26 : decode cX7_init 26 = .ok (.aload_n 0, 1) := by decide +kernel
theorem dX7_init_27 : decode cX7_init 27 = .ok (.aload_n 2, 1) := by decide +kernel
theorem dX7_init_28 : decode cX7_init 28 = .ok (.putfield 21, 3) := by decide +kernel
theorem dX7_init_31 : decode cX7_init 31 = .ok (.aload_n 0, 1) := by decide +kernel
theorem dX7_init_32 : decode cX7_init 32 = .ok (.new 25, 3) := by decide +kernel
theorem dX7_init_35 : decode cX7_init 35 = .ok (.dup, 1) := by decide +kernel
theorem dX7_init_36 : decode cX7_init 36 = .ok (.aload_n 1, 1) := by decide +kernel
theorem dX7_init_37 : decode cX7_init 37 = .ok (.aload_n 2, 1) := by decide +kernel
theorem dX7_init_38 : decode cX7_init 38 = .ok (.invokespecial 27, 3) := by decide +kernel
theorem dX7_init_41 : decode cX7_init 41 = .ok (.putfield 30, 3) := by decide +kernel
theorem dX7_init_44 : decode cX7_init 44 = .ok (.aload_n 0, 1) := by decide +kernel
theorem dX7_init_45 : decode cX7_init 45 = .ok (.new 34, 3) := by decide +kernel
theorem dX7_init_48 : decode cX7_init 48 = .ok (.dup, 1) := by decide +kernel
theorem dX7_init_49 : decode cX7_init 49 = .ok (.aload_n 1, 1) := by decide +kernel
theorem dX7_init_50 : decode cX7_init 50 = .ok (.invokespecial 36, 3) := by decide +kernel
theorem dX7_init_53 : decode cX7_init 53 = .ok (.putfield 37, 3) := by decide +kernel
theorem dX7_init_56 : decode cX7_init 56 = .ok (.aload_n 0, 1) := by decide +kernel
theorem dX7_init_57 : decode cX7_init 57 = .ok (.new 41, 3) := by decide +kernel
theorem dX7_init_60 : decode cX7_init 60 = .ok (.dup, 1) := by decide +kernel
theorem dX7_init_61 : decode cX7_init 61 = .ok (.aload_n 1, 1) := by decide +kernel
theorem dX7_init_62 : decode cX7_init 62 = .ok (.invokespecial 43, 3) := by decide +kernel
theorem dX7_init_65 : decode cX7_init 65 = .ok (.putfield 44, 3) := by decide +kernel
theorem dX7_init_68 : decode cX7_init 68 = .ok (.aload_n 0, 1) := by decide +kernel
theorem dX7_init_69 : decode cX7_init 69 = .ok (.new 48, 3) := by decide +kernel
theorem dX7_init_72 : decode cX7_init 72 = .ok (.dup, 1) := by decide +kernel
theorem dX7_init_73 : decode cX7_init 73 = .ok (.invokespecial 50, 3) := by decide +kernel
theorem dX7_init_76 : decode cX7_init 76 = .ok (.putfield 51, 3) := by decide +kernel
theorem dX7_init_79 : decode cX7_init 79 = .ok (.aload_n 0, 1) := by decide +kernel
theorem dX7_init_80 : decode cX7_init 80 = .ok (.new 55, 3) := by decide +kernel
theorem dX7_init_83 : decode cX7_init 83 = .ok (.dup, 1) := by decide +kernel
theorem dX7_init_84 : decode cX7_init 84 = .ok (.invokespecial 57, 3) := by decide +kernel
theorem dX7_init_87 : decode cX7_init 87 = .ok (.putfield 58, 3) := by decide +kernel
theorem dX7_init_90 : decode cX7_init 90 = .ok (.return_, 1) := by decide +kernel
set_option maxRecDepth 20000 in
theorem ggX7_pin_X7_isFreePlace : GoodIn wsX7_pin wsX7_isFreePlace := goodIn_r _ [7, 1, 8, 9, 10, 11, 12, 13, 14, 19, 20, 21, 22, 23, 24, 25, 26, 27, 28, 29, 30, 31, 32, 33, 34, 35] (by decide +kernel) (by decide +kernel)
set_option maxRecDepth 20000 in
theorem gX7_pin_X7_isFreePlace : GoodIn wsX7_pin (wsV RX7 66 RX7 yX7_isFreePlace wsX7_isFreePlace) := goodIn_app (goodIn_of _ (by decide +kernel)) ggX7_pin_X7_isFreePlace
set_option maxRecDepth 20000 in
theorem ggX7_pin_X3_put : GoodIn wsX7_pin wsX3_put := goodIn_r _ [18, 14, 26, 27, 28, 29, 30, 31, 32, 33, 34, 35] (by decide +kernel) (by decide +kernel)
set_option maxRecDepth 20000 in
theorem gX7_pin_X3_put : GoodIn wsX7_pin (wsV RX7 70 RX3 yX3_put wsX3_put) := goodIn_app (goodIn_of _ (by decide +kernel)) ggX7_pin_X3_put
theorem dX7_pin_0 : decode cX7_pin 0 = .ok (.aload_n 0, 1) := by decide +kernel
theorem dX7_pin_1 : decode cX7_pin 1 = .ok (.getfield 17, 3) := by decide +kernel
theorem dX7_pin_4 : decode cX7_pin 4 = .ok (.getfield 62, 3) := by decide +kernel
theorem dX7_pin_7 : decode cX7_pin 7 = .ok (.bipush 6, 2) := by decide +kernel
theorem dX7_pin_9 : decode cX7_pin 9 = .ok (.if_icmp .ge 12, 3) := by decide +kernel
theorem dX7_pin_12 : decode cX7_pin 12 = .ok (.aload_n 0, 1) := by decide +kernel
theorem dX7_pin_13 : decode cX7_pin 13 = .ok (.iload_n 1, 1) := by decide +kernel
theorem dX7_pin_14 : decode cX7_pin 14 = .ok (.iload_n 2, 1) := by decide +kernel
theorem dX7_pin_15 : decode cX7_pin 15 = .ok (.invokevirtual 66, 3) := by decide +kernel
theorem dX7_pin_18 : decode cX7_pin 18 = .ok (.ifCond .ne 5, 3) := by decide +kernel
theorem dX7_pin_21 : decode cX7_pin 21 = .ok (.iconst (-1), 1) := by decide +kernel
theorem dX7_pin_22 : decode cX7_pin 22 = .ok (.ireturn, 1) := by decide +kernel
theorem dX7_pin_23 : decode cX7_pin 23 = .ok (.aload_n 0, 1) := by decide +kernel
theorem dX7_pin_24 : decode cX7_pin 24 = .ok (.getfield 17, 3) := by decide +kernel
theorem dX7_pin_27 : decode cX7_pin 27 = .ok (.getfield 62, 3) := by decide +kernel
theorem dX7_pin_30 : decode cX7_pin 30 = .ok (.istore_n 3, 1) := by decide +kernel
theorem dX7_pin_31 : decode cX7_pin 31 = .ok (.aload_n 0, 1) := by decide +kernel
theorem dX7_pin_32 : decode cX7_pin 32 = .ok (.getfield 17, 3) := by decide +kernel
theorem dX7_pin_35 : decode cX7_pin 35 = .ok (.dup, 1) := by decide +kernel
theorem dX7_pin_36 : decode cX7_pin 36 = .ok (.getfield 62, 3) := by decide +kernel
theorem dX7_pin_39 : decode cX7_pin 39 = .ok (.iconst 1, 1) := by decide +kernel
theorem dX7_pin_40 : decode cX7_pin 40 = .ok (.iadd, 1) := by decide +kernel
theorem dX7_pin_41 : decode cX7_pin 41 = .ok (.putfield 62, 3) := by decide +kernel
theorem dX7_pin_44 : decode cX7_pin 44 = .ok (.aload_n 0, 1) := by decide +kernel
theorem dX7_pin_45 : decode cX7_pin 45 = .ok (.getfield 17, 3) := by decide +kernel
theorem dX7_pin_48 : decode cX7_pin 48 = .ok (.iload_n 3, 1) := by decide +kernel
theorem dX7_pin_49 : decode cX7_pin 49 = .ok (.iload_n 1, 1) := by decide +kernel
theorem dX7_pin_50 : decode cX7_pin 50 = .ok (.iload_n 2, 1) := by decide +kernel
theorem dX7_pin_51 : decode cX7_pin 51 = .ok (.invokevirtual 70, 3) := by decide +kernel
theorem dX7_pin_54 : decode cX7_pin 54 = .ok (.iload_n 3, 1) := by decide +kernel
theorem dX7_pin_55 : decode cX7_pin 55 = .ok (.ireturn, 1) := by decide +kernel
set_option maxRecDepth 20000 in
theorem ggX7_place_X3_isPin : GoodIn wsX7_place wsX3_isPin := goodIn_r _ [6, 7, 29, 30, 31, 32, 33, 34, 35, 36, 37, 38] (by decide +kernel) (by decide +kernel)
set_option maxRecDepth 20000 in
theorem gX7_place_X3_isPin : GoodIn wsX7_place (wsV RX7 74 RX3 yX3_isPin wsX3_isPin) := goodIn_app (goodIn_of _ (by decide +kernel)) ggX7_place_X3_isPin
set_option maxRecDepth 20000 in
theorem ggX7_place_X7_isFreePlace : GoodIn wsX7_place wsX7_isFreePlace := goodIn_r _ [12, 1, 13, 14, 15, 5, 16, 7, 17, 22, 23, 24, 25, 26, 27, 28, 29, 30, 31, 32, 33, 34, 35, 36, 37, 38] (by decide +kernel) (by decide +kernel)
set_option maxRecDepth 20000 in
theorem gX7_place_X7_isFreePlace : GoodIn wsX7_place (wsV RX7 66 RX7 yX7_isFreePlace wsX7_isFreePlace) := goodIn_app (goodIn_of _ (by decide +kernel)) ggX7_place_X7_isFreePlace
set_option maxRecDepth 20000 in
theorem ggX7_place_X3_put : GoodIn wsX7_place wsX3_put := goodIn_r _ [21, 17, 29, 30, 31, 32, 33, 34, 35, 36, 37, 38] (by decide +kernel) (by decide +kernel)
set_option maxRecDepth 20000 in
theorem gX7_place_X3_put : GoodIn wsX7_place (wsV RX7 70 RX3 yX3_put wsX3_put) := goodIn_app (goodIn_of _ (by decide +kernel)) ggX7_place_X3_put
theorem dX7_place_0 : decode cX7_place 0 = .ok (.aload_n 0, 1) := by decide +kernel
theorem dX7_place_1 : decode cX7_place 1 = .ok (.getfield 17, 3) := by decide +kernel
theorem dX7_place_4 : decode cX7_place 4 = .ok (.iload_n 1, 1) := by decide +kernel
theorem dX7_place_5 : decode cX7_place 5 = .ok (.invokevirtual 74, 3) := by decide +kernel
theorem dX7_place_8 : decode cX7_place 8 = .ok (.ifCond .eq 12, 3) := by decide +kernel
theorem dX7_place_11 : decode cX7_place 11 = .ok (.aload_n 0, 1) := by decide +kernel
theorem dX7_place_12 : decode cX7_place 12 = .ok (.iload_n 2, 1) := by decide +kernel
theorem dX7_place_13 : decode cX7_place 13 = .ok (.iload_n 3, 1) := by decide +kernel
theorem dX7_place_14 : decode cX7_place 14 = .ok (.invokevirtual 66, 3) := by decide +kernel
theorem dX7_place_17 : decode cX7_place 17 = .ok (.ifCond .ne 5, 3) := by decide +kernel
theorem dX7_place_20 : decode cX7_place 20 = .ok (.iconst 0, 1) := by decide +kernel
theorem dX7_place_21 : decode cX7_place 21 = .ok (.ireturn, 1) := by decide +kernel
theorem dX7_place_22 : decode cX7_place 22 = .ok (.aload_n 0, 1) := by decide +kernel
theorem dX7_place_23 : decode cX7_place 23 = .ok (.getfield 17, 3) := by decide +kernel
theorem dX7_place_26 : decode cX7_place 26 = .ok (.iload_n 1, 1) := by decide +kernel
theorem dX7_place_27 : decode cX7_place 27 = .ok (.iload_n 2, 1) := by decide +kernel
theorem dX7_place_28 : decode cX7_place 28 = .ok (.iload_n 3, 1) := by decide +kernel
theorem dX7_place_29 : decode cX7_place 29 = .ok (.invokevirtual 70, 3) := by decide +kernel
theorem dX7_place_32 : decode cX7_place 32 = .ok (.iconst 1, 1) := by decide +kernel
theorem dX7_place_33 : decode cX7_place 33 = .ok (.ireturn, 1) := by decide +kernel
set_option maxRecDepth 20000 in
theorem ggX7_bar_X3_isPin : GoodIn wsX7_bar wsX3_isPin := goodIn_r _ [7, 8, 34, 35, 36, 37, 38, 39, 40, 41, 42, 43] (by decide +kernel) (by decide +kernel)
set_option maxRecDepth 20000 in
theorem gX7_bar_X3_isPin : GoodIn wsX7_bar (wsV RX7 74 RX3 yX3_isPin wsX3_isPin) := goodIn_app (goodIn_of _ (by decide +kernel)) ggX7_bar_X3_isPin
set_option maxRecDepth 20000 in
theorem ggX7_bar_X7_isGive : GoodIn wsX7_bar wsX7_isGive := goodIn_r _ [12] (by decide +kernel) (by decide +kernel)
set_option maxRecDepth 20000 in
theorem gX7_bar_X7_isGive : GoodIn wsX7_bar (va_wsS RX7 81 yX7_isGive wsX7_isGive) := goodIn_app (goodIn_of _ (by decide +kernel)) ggX7_bar_X7_isGive
set_option maxRecDepth 20000 in
theorem ggX7_bar_X3_hasBar : GoodIn wsX7_bar wsX3_hasBar := goodIn_r _ [16, 17, 18, 19, 34, 35, 36, 37, 38, 39, 40, 41, 42, 43] (by decide +kernel) (by decide +kernel)
set_option maxRecDepth 20000 in
theorem gX7_bar_X3_hasBar : GoodIn wsX7_bar (wsV RX7 84 RX3 yX3_hasBar wsX3_hasBar) := goodIn_app (goodIn_of _ (by decide +kernel)) ggX7_bar_X3_hasBar
set_option maxRecDepth 20000 in
theorem ggX7_bar_X3_addBar : GoodIn wsX7_bar wsX3_addBar := goodIn_r _ [23, 17, 18, 19, 24, 25, 26, 34, 35, 36, 37, 38, 39, 40, 41, 42, 43] (by decide +kernel) (by decide +kernel)
set_option maxRecDepth 20000 in
theorem gX7_bar_X3_addBar : GoodIn wsX7_bar (wsV RX7 87 RX3 yX3_addBar wsX3_addBar) := goodIn_app (goodIn_of _ (by decide +kernel)) ggX7_bar_X3_addBar
theorem dX7_bar_0 : decode cX7_bar 0 = .ok (.aload_n 0, 1) := by decide +kernel
theorem dX7_bar_1 : decode cX7_bar 1 = .ok (.getfield 17, 3) := by decide +kernel
theorem dX7_bar_4 : decode cX7_bar 4 = .ok (.getfield 78, 3) := by decide +kernel
theorem dX7_bar_7 : decode cX7_bar 7 = .ok (.bipush 11, 2) := by decide +kernel
theorem dX7_bar_9 : decode cX7_bar 9 = .ok (.if_icmp .ge 34, 3) := by decide +kernel
theorem dX7_bar_12 : decode cX7_bar 12 = .ok (.aload_n 0, 1) := by decide +kernel
theorem dX7_bar_13 : decode cX7_bar 13 = .ok (.getfield 17, 3) := by decide +kernel
theorem dX7_bar_16 : decode cX7_bar 16 = .ok (.iload_n 1, 1) := by decide +kernel
theorem dX7_bar_17 : decode cX7_bar 17 = .ok (.invokevirtual 74, 3) := by decide +kernel
theorem dX7_bar_20 : decode cX7_bar 20 = .ok (.ifCond .eq 23, 3) := by decide +kernel
theorem dX7_bar_23 : decode cX7_bar 23 = .ok (.aload_n 0, 1) := by decide +kernel
theorem dX7_bar_24 : decode cX7_bar 24 = .ok (.getfield 17, 3) := by decide +kernel
theorem dX7_bar_27 : decode cX7_bar 27 = .ok (.iload_n 2, 1) := by decide +kernel
theorem dX7_bar_28 : decode cX7_bar 28 = .ok (.invokevirtual 74, 3) := by decide +kernel
theorem dX7_bar_31 : decode cX7_bar 31 = .ok (.ifCond .eq 12, 3) := by decide +kernel
theorem dX7_bar_34 : decode cX7_bar 34 = .ok (.iload_n 1, 1) := by decide +kernel
theorem dX7_bar_35 : decode cX7_bar 35 = .ok (.iload_n 2, 1) := by decide +kernel
theorem dX7_bar_36 : decode cX7_bar 36 = .ok (.if_icmp .eq 7, 3) := by decide +kernel
theorem dX7_bar_39 : decode cX7_bar 39 = .ok (.iconst 1, 1) := by decide +kernel
theorem dX7_bar_40 : decode cX7_bar 40 = .ok (.goto 4, 3) := by decide +kernel
theorem dX7_bar_43 : decode cX7_bar 43 = .ok (.iconst 0, 1) := by decide +kernel
theorem dX7_bar_44 : decode cX7_bar 44 = .ok (.istore 4, 2) := by decide +kernel
theorem dX7_bar_46 : decode cX7_bar 46 = .ok (.iload 4, 2) := by decide +kernel
theorem dX7_bar_48 : decode cX7_bar 48 = .ok (.ifCond .eq 22, 3) := by decide +kernel
theorem dX7_bar_51 : decode cX7_bar 51 = .ok (.iload_n 3, 1) := by decide +kernel
theorem dX7_bar_52 : decode cX7_bar 52 = .ok (.invokestatic 81, 3) := by decide +kernel
theorem dX7_bar_55 : decode cX7_bar 55 = .ok (.ifCond .eq 15, 3) := by decide +kernel
theorem dX7_bar_58 : decode cX7_bar 58 = .ok (.aload_n 0, 1) := by decide +kernel
theorem dX7_bar_59 : decode cX7_bar 59 = .ok (.getfield 17, 3) := by decide +kernel
theorem dX7_bar_62 : decode cX7_bar 62 = .ok (.iload_n 1, 1) := by decide +kernel
theorem dX7_bar_63 : decode cX7_bar 63 = .ok (.iload_n 2, 1) := by decide +kernel
theorem dX7_bar_64 : decode cX7_bar 64 = .ok (.invokevirtual 84, 3) := by decide +kernel
theorem dX7_bar_67 : decode cX7_bar 67 = .ok (.ifCond .eq 5, 3) := by decide +kernel
theorem dX7_bar_70 : decode cX7_bar 70 = .ok (.iconst (-1), 1) := by decide +kernel
theorem dX7_bar_71 : decode cX7_bar 71 = .ok (.ireturn, 1) := by decide +kernel
theorem dX7_bar_72 : decode cX7_bar 72 = .ok (.aload_n 0, 1) := by decide +kernel
theorem dX7_bar_73 : decode cX7_bar 73 = .ok (.getfield 17, 3) := by decide +kernel
theorem dX7_bar_76 : decode cX7_bar 76 = .ok (.iload_n 1, 1) := by decide +kernel
theorem dX7_bar_77 : decode cX7_bar 77 = .ok (.iload_n 2, 1) := by decide +kernel
theorem dX7_bar_78 : decode cX7_bar 78 = .ok (.iload_n 3, 1) := by decide +kernel
theorem dX7_bar_79 : decode cX7_bar 79 = .ok (.invokevirtual 87, 3) := by decide +kernel
theorem dX7_bar_82 : decode cX7_bar 82 = .ok (.ireturn, 1) := by decide +kernel
set_option maxRecDepth 20000 in
theorem ggX7_turn_X3_isBar : GoodIn wsX7_turn wsX3_isBar := goodIn_r _ [7, 8, 25, 26, 27, 28, 29, 30, 31, 32, 33, 34] (by decide +kernel) (by decide +kernel)
set_option maxRecDepth 20000 in
theorem gX7_turn_X3_isBar : GoodIn wsX7_turn (wsV RX7 91 RX3 yX3_isBar wsX3_isBar) := goodIn_app (goodIn_of _ (by decide +kernel)) ggX7_turn_X3_isBar
set_option maxRecDepth 20000 in
theorem ggX7_turn_X3_isOn : GoodIn wsX7_turn wsX3_isOn := goodIn_r _ [12, 13, 14, 4, 5, 6, 7, 8, 15, 16, 17, 25, 26, 27, 28, 29, 30, 31, 32, 33, 34] (by decide +kernel) (by decide +kernel)
set_option maxRecDepth 20000 in
theorem gX7_turn_X3_isOn : GoodIn wsX7_turn (wsV RX7 94 RX3 yX3_isOn wsX3_isOn) := goodIn_app (goodIn_of _ (by decide +kernel)) ggX7_turn_X3_isOn
theorem dX7_turn_0 : decode cX7_turn 0 = .ok (.aload_n 0, 1) := by decide +kernel
theorem dX7_turn_1 : decode cX7_turn 1 = .ok (.getfield 17, 3) := by decide +kernel
theorem dX7_turn_4 : decode cX7_turn 4 = .ok (.iload_n 1, 1) := by decide +kernel
theorem dX7_turn_5 : decode cX7_turn 5 = .ok (.invokevirtual 91, 3) := by decide +kernel
theorem dX7_turn_8 : decode cX7_turn 8 = .ok (.ifCond .eq 15, 3) := by decide +kernel
theorem dX7_turn_11 : decode cX7_turn 11 = .ok (.aload_n 0, 1) := by decide +kernel
theorem dX7_turn_12 : decode cX7_turn 12 = .ok (.getfield 17, 3) := by decide +kernel
theorem dX7_turn_15 : decode cX7_turn 15 = .ok (.iload_n 1, 1) := by decide +kernel
theorem dX7_turn_16 : decode cX7_turn 16 = .ok (.invokevirtual 94, 3) := by decide +kernel
theorem dX7_turn_19 : decode cX7_turn 19 = .ok (.iload_n 2, 1) := by decide +kernel
theorem dX7_turn_20 : decode cX7_turn 20 = .ok (.if_icmp .ne 5, 3) := by decide +kernel
theorem dX7_turn_23 : decode cX7_turn 23 = .ok (.iconst 0, 1) := by decide +kernel
theorem dX7_turn_24 : decode cX7_turn 24 = .ok (.ireturn, 1) := by decide +kernel
theorem dX7_turn_25 : decode cX7_turn 25 = .ok (.aload_n 0, 1) := by decide +kernel
theorem dX7_turn_26 : decode cX7_turn 26 = .ok (.getfield 17, 3) := by decide +kernel
theorem dX7_turn_29 : decode cX7_turn 29 = .ok (.dup, 1) := by decide +kernel
theorem dX7_turn_30 : decode cX7_turn 30 = .ok (.getfield 97, 3) := by decide +kernel
theorem dX7_turn_33 : decode cX7_turn 33 = .ok (.iconst 1, 1) := by decide +kernel
theorem dX7_turn_34 : decode cX7_turn 34 = .ok (.iload_n 1, 1) := by decide +kernel
theorem dX7_turn_35 : decode cX7_turn 35 = .ok (.ishl, 1) := by decide +kernel
theorem dX7_turn_36 : decode cX7_turn 36 = .ok (.ixor, 1) := by decide +kernel
theorem dX7_turn_37 : decode cX7_turn 37 = .ok (.putfield 97, 3) := by decide +kernel
theorem dX7_turn_40 : decode cX7_turn 40 = .ok (.iconst 1, 1) := by decide +kernel
theorem dX7_turn_41 : decode cX7_turn 41 = .ok (.ireturn, 1) := by decide +kernel
set_option maxRecDepth 20000 in
theorem ggX7_alter_X3_isBar : GoodIn wsX7_alter wsX3_isBar := goodIn_r _ [8, 9, 21, 22, 23, 24, 25, 26, 27, 28, 29, 30] (by decide +kernel) (by decide +kernel)
set_option maxRecDepth 20000 in
theorem gX7_alter_X3_isBar : GoodIn wsX7_alter (wsV RX7 91 RX3 yX3_isBar wsX3_isBar) := goodIn_app (goodIn_of _ (by decide +kernel)) ggX7_alter_X3_isBar
set_option maxRecDepth 20000 in
theorem ggX7_alter_X7_isGive : GoodIn wsX7_alter wsX7_isGive := goodIn_r _ [13] (by decide +kernel) (by decide +kernel)
set_option maxRecDepth 20000 in
theorem gX7_alter_X7_isGive : GoodIn wsX7_alter (va_wsS RX7 81 yX7_isGive wsX7_isGive) := goodIn_app (goodIn_of _ (by decide +kernel)) ggX7_alter_X7_isGive
theorem dX7_alter_0 : decode cX7_alter 0 = .ok (.aload_n 0, 1) := by decide +kernel
theorem dX7_alter_1 : decode cX7_alter 1 = .ok (.getfield 17, 3) := by decide +kernel
theorem dX7_alter_4 : decode cX7_alter 4 = .ok (.iload_n 1, 1) := by decide +kernel
theorem dX7_alter_5 : decode cX7_alter 5 = .ok (.invokevirtual 91, 3) := by decide +kernel
theorem dX7_alter_8 : decode cX7_alter 8 = .ok (.ifCond .ne 5, 3) := by decide +kernel
theorem dX7_alter_11 : decode cX7_alter 11 = .ok (.iconst 0, 1) := by decide +kernel
theorem dX7_alter_12 : decode cX7_alter 12 = .ok (.ireturn, 1) := by decide +kernel
theorem dX7_alter_13 : decode cX7_alter 13 = .ok (.iload_n 2, 1) := by decide +kernel
theorem dX7_alter_14 : decode cX7_alter 14 = .ok (.ifCond .eq 13, 3) := by decide +kernel
theorem dX7_alter_17 : decode cX7_alter 17 = .ok (.aload_n 0, 1) := by decide +kernel
theorem dX7_alter_18 : decode cX7_alter 18 = .ok (.getfield 17, 3) := by decide +kernel
theorem dX7_alter_21 : decode cX7_alter 21 = .ok (.getfield 100, 3) := by decide +kernel
theorem dX7_alter_24 : decode cX7_alter 24 = .ok (.goto 10, 3) := by decide +kernel
theorem dX7_alter_27 : decode cX7_alter 27 = .ok (.aload_n 0, 1) := by decide +kernel
theorem dX7_alter_28 : decode cX7_alter 28 = .ok (.getfield 17, 3) := by decide +kernel
theorem dX7_alter_31 : decode cX7_alter 31 = .ok (.getfield 104, 3) := by decide +kernel
theorem dX7_alter_34 : decode cX7_alter 34 = .ok (.astore 4, 2) := by decide +kernel
theorem dX7_alter_36 : decode cX7_alter 36 = .ok (.iload_n 2, 1) := by decide +kernel
theorem dX7_alter_37 : decode cX7_alter 37 = .ok (.ifCond .eq 23, 3) := by decide +kernel
theorem dX7_alter_40 : decode cX7_alter 40 = .ok (.iload_n 3, 1) := by decide +kernel
theorem dX7_alter_41 : decode cX7_alter 41 = .ok (.iconst 1, 1) := by decide +kernel
theorem dX7_alter_42 : decode cX7_alter 42 = .ok (.if_icmp .lt 14, 3) := by decide +kernel
theorem dX7_alter_45 : decode cX7_alter 45 = .ok (.iload_n 3, 1) := by decide +kernel
theorem dX7_alter_46 : decode cX7_alter 46 = .ok (.sipush 999, 3) := by decide +kernel
theorem dX7_alter_49 : decode cX7_alter 49 = .ok (.if_icmp .gt 7, 3) := by decide +kernel
theorem dX7_alter_52 : decode cX7_alter 52 = .ok (.iconst 1, 1) := by decide +kernel
theorem dX7_alter_53 : decode cX7_alter 53 = .ok (.goto 11, 3) := by decide +kernel
theorem dX7_alter_56 : decode cX7_alter 56 = .ok (.iconst 0, 1) := by decide +kernel
theorem dX7_alter_57 : decode cX7_alter 57 = .ok (.goto 7, 3) := by decide +kernel
theorem dX7_alter_60 : decode cX7_alter 60 = .ok (.iload_n 3, 1) := by decide +kernel
theorem dX7_alter_61 : decode cX7_alter 61 = .ok (.invokestatic 81, 3) := by decide +kernel
theorem dX7_alter_64 : decode cX7_alter 64 = .ok (.istore 5, 2) := by decide +kernel
theorem dX7_alter_66 : decode cX7_alter 66 = .ok (.iload 5, 2) := by decide +kernel
theorem dX7_alter_68 : decode cX7_alter 68 = .ok (.ifCond .eq 11, 3) := by decide +kernel
theorem dX7_alter_71 : decode cX7_alter 71 = .ok (.aload 4, 2) := by decide +kernel
theorem dX7_alter_73 : decode cX7_alter 73 = .ok (.iload_n 1, 1) := by decide +kernel
theorem dX7_alter_74 : decode cX7_alter 74 = .ok (.iaload, 1) := by decide +kernel
theorem dX7_alter_75 : decode cX7_alter 75 = .ok (.iload_n 3, 1) := by decide +kernel
theorem dX7_alter_76 : decode cX7_alter 76 = .ok (.if_icmp .ne 5, 3) := by decide +kernel
theorem dX7_alter_79 : decode cX7_alter 79 = .ok (.iconst 0, 1) := by decide +kernel
theorem dX7_alter_80 : decode cX7_alter 80 = .ok (.ireturn, 1) := by decide +kernel
theorem dX7_alter_81 : decode cX7_alter 81 = .ok (.aload 4, 2) := by decide +kernel
theorem dX7_alter_83 : decode cX7_alter 83 = .ok (.iload_n 1, 1) := by decide +kernel
theorem dX7_alter_84 : decode cX7_alter 84 = .ok (.iload_n 3, 1) := by decide +kernel
theorem dX7_alter_85 : decode cX7_alter 85 = .ok (.iastore, 1) := by decide +kernel
theorem dX7_alter_86 : decode cX7_alter 86 = .ok (.iconst 1, 1) := by decide +kernel
theorem dX7_alter_87 : decode cX7_alter 87 = .ok (.ireturn, 1) := by decide +kernel
set_option maxRecDepth 20000 in
theorem ggX7_hold_X3_isPin : GoodIn wsX7_hold wsX3_isPin := goodIn_r _ [7, 8, 20, 21, 22, 23, 24, 25, 26, 27, 28, 29] (by decide +kernel) (by decide +kernel)
set_option maxRecDepth 20000 in
theorem gX7_hold_X3_isPin : GoodIn wsX7_hold (wsV RX7 74 RX3 yX3_isPin wsX3_isPin) := goodIn_app (goodIn_of _ (by decide +kernel)) ggX7_hold_X3_isPin
set_option maxRecDepth 20000 in
theorem ggX7_hold_X7_isDirection : GoodIn wsX7_hold wsX7_isDirection := goodIn_r _ [12] (by decide +kernel) (by decide +kernel)
set_option maxRecDepth 20000 in
theorem gX7_hold_X7_isDirection : GoodIn wsX7_hold (va_wsS RX7 107 yX7_isDirection wsX7_isDirection) := goodIn_app (goodIn_of _ (by decide +kernel)) ggX7_hold_X7_isDirection
theorem dX7_hold_0 : decode cX7_hold 0 = .ok (.aload_n 0, 1) := by decide +kernel
theorem dX7_hold_1 : decode cX7_hold 1 = .ok (.getfield 17, 3) := by decide +kernel
theorem dX7_hold_4 : decode cX7_hold 4 = .ok (.iload_n 1, 1) := by decide +kernel
theorem dX7_hold_5 : decode cX7_hold 5 = .ok (.invokevirtual 74, 3) := by decide +kernel
theorem dX7_hold_8 : decode cX7_hold 8 = .ok (.ifCond .eq 10, 3) := by decide +kernel
theorem dX7_hold_11 : decode cX7_hold 11 = .ok (.iload_n 2, 1) := by decide +kernel
theorem dX7_hold_12 : decode cX7_hold 12 = .ok (.invokestatic 107, 3) := by decide +kernel
theorem dX7_hold_15 : decode cX7_hold 15 = .ok (.ifCond .ne 5, 3) := by decide +kernel
theorem dX7_hold_18 : decode cX7_hold 18 = .ok (.iconst 0, 1) := by decide +kernel
theorem dX7_hold_19 : decode cX7_hold 19 = .ok (.ireturn, 1) := by decide +kernel
theorem dX7_hold_20 : decode cX7_hold 20 = .ok (.iconst 2, 1) := by decide +kernel
theorem dX7_hold_21 : decode cX7_hold 21 = .ok (.iload_n 1, 1) := by decide +kernel
theorem dX7_hold_22 : decode cX7_hold 22 = .ok (.imul, 1) := by decide +kernel
theorem dX7_hold_23 : decode cX7_hold 23 = .ok (.iload_n 2, 1) := by decide +kernel
theorem dX7_hold_24 : decode cX7_hold 24 = .ok (.iadd, 1) := by decide +kernel
theorem dX7_hold_25 : decode cX7_hold 25 = .ok (.istore 4, 2) := by decide +kernel
theorem dX7_hold_27 : decode cX7_hold 27 = .ok (.aload_n 0, 1) := by decide +kernel
theorem dX7_hold_28 : decode cX7_hold 28 = .ok (.getfield 17, 3) := by decide +kernel
theorem dX7_hold_31 : decode cX7_hold 31 = .ok (.getfield 110, 3) := by decide +kernel
theorem dX7_hold_34 : decode cX7_hold 34 = .ok (.iload 4, 2) := by decide +kernel
theorem dX7_hold_36 : decode cX7_hold 36 = .ok (.baload, 1) := by decide +kernel
theorem dX7_hold_37 : decode cX7_hold 37 = .ok (.iload_n 3, 1) := by decide +kernel
theorem dX7_hold_38 : decode cX7_hold 38 = .ok (.if_icmp .ne 5, 3) := by decide +kernel
theorem dX7_hold_41 : decode cX7_hold 41 = .ok (.iconst 0, 1) := by decide +kernel
theorem dX7_hold_42 : decode cX7_hold 42 = .ok (.ireturn, 1) := by decide +kernel
theorem dX7_hold_43 : decode cX7_hold 43 = .ok (.aload_n 0, 1) := by decide +kernel
theorem dX7_hold_44 : decode cX7_hold 44 = .ok (.getfield 17, 3) := by decide +kernel
theorem dX7_hold_47 : decode cX7_hold 47 = .ok (.getfield 110, 3) := by decide +kernel
theorem dX7_hold_50 : decode cX7_hold 50 = .ok (.iload 4, 2) := by decide +kernel
theorem dX7_hold_52 : decode cX7_hold 52 = .ok (.iload_n 3, 1) := by decide +kernel
theorem dX7_hold_53 : decode cX7_hold 53 = .ok (.bastore, 1) := by decide +kernel
theorem dX7_hold_54 : decode cX7_hold 54 = .ok (.iconst 1, 1) := by decide +kernel
theorem dX7_hold_55 : decode cX7_hold 55 = .ok (.ireturn, 1) := by decide +kernel
set_option maxRecDepth 20000 in
theorem ggX7_load_X3_isPin : GoodIn wsX7_load wsX3_isPin := goodIn_r _ [7, 8, 20, 21, 22, 23, 24, 25, 26, 27, 28, 29] (by decide +kernel) (by decide +kernel)
set_option maxRecDepth 20000 in
theorem gX7_load_X3_isPin : GoodIn wsX7_load (wsV RX7 74 RX3 yX3_isPin wsX3_isPin) := goodIn_app (goodIn_of _ (by decide +kernel)) ggX7_load_X3_isPin
set_option maxRecDepth 20000 in
theorem ggX7_load_X7_isLoad : GoodIn wsX7_load wsX7_isLoad := goodIn_r _ [12] (by decide +kernel) (by decide +kernel)
set_option maxRecDepth 20000 in
theorem gX7_load_X7_isLoad : GoodIn wsX7_load (va_wsS RX7 114 yX7_isLoad wsX7_isLoad) := goodIn_app (goodIn_of _ (by decide +kernel)) ggX7_load_X7_isLoad
theorem dX7_load_0 : decode cX7_load 0 = .ok (.aload_n 0, 1) := by decide +kernel
theorem dX7_load_1 : decode cX7_load 1 = .ok (.getfield 17, 3) := by decide +kernel
theorem dX7_load_4 : decode cX7_load 4 = .ok (.iload_n 1, 1) := by decide +kernel
theorem dX7_load_5 : decode cX7_load 5 = .ok (.invokevirtual 74, 3) := by decide +kernel
theorem dX7_load_8 : decode cX7_load 8 = .ok (.ifCond .eq 17, 3) := by decide +kernel
theorem dX7_load_11 : decode cX7_load 11 = .ok (.iload_n 2, 1) := by decide +kernel
theorem dX7_load_12 : decode cX7_load 12 = .ok (.invokestatic 114, 3) := by decide +kernel
theorem dX7_load_15 : decode cX7_load 15 = .ok (.ifCond .eq 10, 3) := by decide +kernel
theorem dX7_load_18 : decode cX7_load 18 = .ok (.iload_n 3, 1) := by decide +kernel
theorem dX7_load_19 : decode cX7_load 19 = .ok (.invokestatic 114, 3) := by decide +kernel
theorem dX7_load_22 : decode cX7_load 22 = .ok (.ifCond .ne 5, 3) := by decide +kernel
theorem dX7_load_25 : decode cX7_load 25 = .ok (.iconst 0, 1) := by decide +kernel
theorem dX7_load_26 : decode cX7_load 26 = .ok (.ireturn, 1) := by decide +kernel
theorem dX7_load_27 : decode cX7_load 27 = .ok (.aload_n 0, 1) := by decide +kernel
theorem dX7_load_28 : decode cX7_load 28 = .ok (.getfield 17, 3) := by decide +kernel
theorem dX7_load_31 : decode cX7_load 31 = .ok (.getfield 117, 3) := by decide +kernel
theorem dX7_load_34 : decode cX7_load 34 = .ok (.iconst 2, 1) := by decide +kernel
theorem dX7_load_35 : decode cX7_load 35 = .ok (.iload_n 1, 1) := by decide +kernel
theorem dX7_load_36 : decode cX7_load 36 = .ok (.imul, 1) := by decide +kernel
theorem dX7_load_37 : decode cX7_load 37 = .ok (.iload_n 2, 1) := by decide +kernel
theorem dX7_load_38 : decode cX7_load 38 = .ok (.iastore, 1) := by decide +kernel
theorem dX7_load_39 : decode cX7_load 39 = .ok (.aload_n 0, 1) := by decide +kernel
theorem dX7_load_40 : decode cX7_load 40 = .ok (.getfield 17, 3) := by decide +kernel
theorem dX7_load_43 : decode cX7_load 43 = .ok (.getfield 117, 3) := by decide +kernel
theorem dX7_load_46 : decode cX7_load 46 = .ok (.iconst 2, 1) := by decide +kernel
theorem dX7_load_47 : decode cX7_load 47 = .ok (.iload_n 1, 1) := by decide +kernel
theorem dX7_load_48 : decode cX7_load 48 = .ok (.imul, 1) := by decide +kernel
theorem dX7_load_49 : decode cX7_load 49 = .ok (.iconst 1, 1) := by decide +kernel
theorem dX7_load_50 : decode cX7_load 50 = .ok (.iadd, 1) := by decide +kernel
theorem dX7_load_51 : decode cX7_load 51 = .ok (.iload_n 3, 1) := by decide +kernel
theorem dX7_load_52 : decode cX7_load 52 = .ok (.iastore, 1) := by decide +kernel
theorem dX7_load_53 : decode cX7_load 53 = .ok (.iconst 1, 1) := by decide +kernel
theorem dX7_load_54 : decode cX7_load 54 = .ok (.ireturn, 1) := by decide +kernel
theorem dX7_unload_0 : decode cX7_unload 0 = .ok (.iconst 0, 1) := by decide +kernel
theorem dX7_unload_1 : decode cX7_unload 1 = .ok (.istore_n 1, 1) := by decide +kernel
theorem dX7_unload_2 : decode cX7_unload 2 = .ok (.iconst 0, 1) := by decide +kernel
theorem dX7_unload_3 : decode cX7_unload 3 = .ok (.istore_n 2, 1) := by decide +kernel
theorem dX7_unload_4 : decode cX7_unload 4 = .ok (.iload_n 2, 1) := by decide +kernel
theorem dX7_unload_5 : decode cX7_unload 5 = .ok (.bipush 12, 2) := by decide +kernel
theorem dX7_unload_7 : decode cX7_unload 7 = .ok (.if_icmp .ge 34, 3) := by decide +kernel
theorem dX7_unload_10 : decode cX7_unload 10 = .ok (.aload_n 0, 1) := by decide +kernel
theorem dX7_unload_11 : decode cX7_unload 11 = .ok (.getfield 17, 3) := by decide +kernel
theorem dX7_unload_14 : decode cX7_unload 14 = .ok (.getfield 117, 3) := by decide +kernel
theorem dX7_unload_17 : decode cX7_unload 17 = .ok (.iload_n 2, 1) := by decide +kernel
theorem dX7_unload_18 : decode cX7_unload 18 = .ok (.iaload, 1) := by decide +kernel
theorem dX7_unload_19 : decode cX7_unload 19 = .ok (.ifCond .eq 16, 3) := by decide +kernel
theorem dX7_unload_22 : decode cX7_unload 22 = .ok (.aload_n 0, 1) := by decide +kernel
theorem dX7_unload_23 : decode cX7_unload 23 = .ok (.getfield 17, 3) := by decide +kernel
theorem dX7_unload_26 : decode cX7_unload 26 = .ok (.getfield 117, 3) := by decide +kernel
theorem dX7_unload_29 : decode cX7_unload 29 = .ok (.iload_n 2, 1) := by decide +kernel
theorem dX7_unload_30 : decode cX7_unload 30 = .ok (.iconst 0, 1) := by decide +kernel
theorem dX7_unload_31 : decode cX7_unload 31 = .ok (.iastore, 1) := by decide +kernel
theorem dX7_unload_32 : decode cX7_unload 32 = .ok (.iinc 1 1, 3) := by decide +kernel
theorem dX7_unload_35 : decode cX7_unload 35 = .ok (.iinc 2 1, 3) := by decide +kernel
theorem dX7_unload_38 : decode cX7_unload 38 = .ok (.goto (-34), 3) := by decide +kernel
theorem dX7_unload_41 : decode cX7_unload 41 = .ok (.iload_n 1, 1) := by decide +kernel
theorem dX7_unload_42 : decode cX7_unload 42 = .ok (.ireturn, 1) := by decide +kernel
set_option maxRecDepth 20000 in
theorem ggX7_deck_X3_isPin : GoodIn wsX7_deck wsX3_isPin := goodIn_r _ [7, 8, 23, 24, 25, 26, 27, 28, 29, 30, 31, 32] (by decide +kernel) (by decide +kernel)
set_option maxRecDepth 20000 in
theorem gX7_deck_X3_isPin : GoodIn wsX7_deck (wsV RX7 74 RX3 yX3_isPin wsX3_isPin) := goodIn_app (goodIn_of _ (by decide +kernel)) ggX7_deck_X3_isPin
set_option maxRecDepth 20000 in
theorem ggX7_deck_X6_addPin : GoodIn wsX7_deck wsX6_addPin := goodIn_r _ [13, 14, 15, 33, 34, 35, 36, 37] (by decide +kernel) (by decide +kernel)
set_option maxRecDepth 20000 in
theorem gX7_deck_X6_addPin : GoodIn wsX7_deck (wsV RX7 120 RX6 yX6_addPin wsX6_addPin) := goodIn_app (goodIn_of _ (by decide +kernel)) ggX7_deck_X6_addPin
theorem dX7_deck_0 : decode cX7_deck 0 = .ok (.aload_n 0, 1) := by decide +kernel
theorem dX7_deck_1 : decode cX7_deck 1 = .ok (.getfield 17, 3) := by decide +kernel
theorem dX7_deck_4 : decode cX7_deck 4 = .ok (.iload_n 1, 1) := by decide +kernel
theorem dX7_deck_5 : decode cX7_deck 5 = .ok (.invokevirtual 74, 3) := by decide +kernel
theorem dX7_deck_8 : decode cX7_deck 8 = .ok (.ifCond .eq 14, 3) := by decide +kernel
theorem dX7_deck_11 : decode cX7_deck 11 = .ok (.aload_n 0, 1) := by decide +kernel
theorem dX7_deck_12 : decode cX7_deck 12 = .ok (.getfield 51, 3) := by decide +kernel
theorem dX7_deck_15 : decode cX7_deck 15 = .ok (.iload_n 1, 1) := by decide +kernel
theorem dX7_deck_16 : decode cX7_deck 16 = .ok (.invokevirtual 120, 3) := by decide +kernel
theorem dX7_deck_19 : decode cX7_deck 19 = .ok (.goto 4, 3) := by decide +kernel
theorem dX7_deck_22 : decode cX7_deck 22 = .ok (.iconst (-1), 1) := by decide +kernel
theorem dX7_deck_23 : decode cX7_deck 23 = .ok (.ireturn, 1) := by decide +kernel
theorem dX7_strip_0 : decode cX7_strip 0 = .ok (.aload_n 0, 1) := by decide +kernel
theorem dX7_strip_1 : decode cX7_strip 1 = .ok (.getfield 51, 3) := by decide +kernel
theorem dX7_strip_4 : decode cX7_strip 4 = .ok (.getfield 124, 3) := by decide +kernel
theorem dX7_strip_7 : decode cX7_strip 7 = .ok (.istore_n 1, 1) := by decide +kernel
theorem dX7_strip_8 : decode cX7_strip 8 = .ok (.aload_n 0, 1) := by decide +kernel
theorem dX7_strip_9 : decode cX7_strip 9 = .ok (.getfield 51, 3) := by decide +kernel
theorem dX7_strip_12 : decode cX7_strip 12 = .ok (.iconst 0, 1) := by decide +kernel
theorem dX7_strip_13 : decode cX7_strip 13 = .ok (.putfield 124, 3) := by decide +kernel
theorem dX7_strip_16 : decode cX7_strip 16 = .ok (.iload_n 1, 1) := by decide +kernel
theorem dX7_strip_17 : decode cX7_strip 17 = .ok (.ireturn, 1) := by decide +kernel
set_option maxRecDepth 20000 in
theorem ggX7_train_X6_takeWeights : GoodIn wsX7_train wsX6_takeWeights := goodIn_r _ [6, 7, 8, 9, 10, 5, 11, 19, 20, 21, 22, 23] (by decide +kernel) (by decide +kernel)
set_option maxRecDepth 20000 in
theorem gX7_train_X6_takeWeights : GoodIn wsX7_train (wsV RX7 125 RX6 yX6_takeWeights wsX6_takeWeights) := goodIn_app (goodIn_of _ (by decide +kernel)) ggX7_train_X6_takeWeights
theorem dX7_train_0 : decode cX7_train 0 = .ok (.aload_n 0, 1) := by decide +kernel
theorem dX7_train_1 : decode cX7_train 1 = .ok (.getfield 51, 3) := by decide +kernel
theorem dX7_train_4 : decode cX7_train 4 = .ok (.iload_n 1, 1) := by decide +kernel
theorem dX7_train_5 : decode cX7_train 5 = .ok (.invokevirtual 125, 3) := by decide +kernel
theorem dX7_train_8 : decode cX7_train 8 = .ok (.ireturn, 1) := by decide +kernel
set_option maxRecDepth 20000 in
theorem ggX7_count_X4_follow : GoodIn wsX7_count wsX4_follow := goodIn_r _ [14, 15, 16, 17, 18, 19, 13, 20, 21, 22, 23, 24, 25, 26, 27, 28, 29, 30, 31, 32, 33, 34, 35, 36, 37, 38, 39, 40, 41, 42, 43, 44, 45, 46, 47, 48, 49, 50, 51, 52, 53, 54, 55, 56, 57, 58, 59, 60, 61, 146, 147, 148, 149, 131, 132, 133, 134, 135, 136, 137, 138, 139, 140] (by decide +kernel) (by decide +kernel)
set_option maxRecDepth 20000 in
theorem gX7_count_X4_follow : GoodIn wsX7_count (wsV RX7 131 RX4 yX4_follow wsX4_follow) := goodIn_app (goodIn_of _ (by decide +kernel)) ggX7_count_X4_follow
set_option maxRecDepth 20000 in
theorem ggX7_count_X7_countOfBalance : GoodIn wsX7_count wsX7_countOfBalance := goodIn_r _ [65, 66, 1, 4, 67, 68, 69, 70, 71, 72, 73, 74, 75, 76, 77, 78, 79, 80, 81, 82, 83, 84, 85, 86, 87, 88, 89, 90, 91, 92, 93, 94, 95, 54, 55, 27, 56, 57, 32, 31, 96, 97, 98, 99, 33, 34, 35, 100, 101, 102, 103, 104, 105, 106, 107, 108, 109, 110, 111, 112, 113, 114, 115, 116, 117, 118, 119, 120, 121, 122, 123, 42, 43, 44, 45, 46, 47, 124, 125, 126, 127, 128, 129, 130, 131, 132, 133, 134, 135, 136, 137, 138, 139, 140, 150, 151, 152, 153, 154, 155, 156, 157, 158] (by decide +kernel) (by decide +kernel)
set_option maxRecDepth 20000 in
theorem gX7_count_X7_countOfBalance : GoodIn wsX7_count (wsV RX7 137 RX7 yX7_countOfBalance wsX7_countOfBalance) := goodIn_app (goodIn_of _ (by decide +kernel)) ggX7_count_X7_countOfBalance
theorem dX7_count_0 : decode cX7_count 0 = .ok (.iload_n 1, 1) := by decide +kernel
theorem dX7_count_1 : decode cX7_count 1 = .ok (.tableswitch 114 0 10 #[59, 67, 75, 114, 114, 114, 114, 114, 83, 91, 99], 59) := by decide +kernel
theorem dX7_count_60 : decode cX7_count 60 = .ok (.aload_n 0, 1) := by decide +kernel
theorem dX7_count_61 : decode cX7_count 61 = .ok (.getfield 17, 3) := by decide +kernel
theorem dX7_count_64 : decode cX7_count 64 = .ok (.getfield 62, 3) := by decide +kernel
theorem dX7_count_67 : decode cX7_count 67 = .ok (.ireturn, 1) := by decide +kernel
theorem dX7_count_68 : decode cX7_count 68 = .ok (.aload_n 0, 1) := by decide +kernel
theorem dX7_count_69 : decode cX7_count 69 = .ok (.getfield 17, 3) := by decide +kernel
theorem dX7_count_72 : decode cX7_count 72 = .ok (.getfield 78, 3) := by decide +kernel
theorem dX7_count_75 : decode cX7_count 75 = .ok (.ireturn, 1) := by decide +kernel
theorem dX7_count_76 : decode cX7_count 76 = .ok (.aload_n 0, 1) := by decide +kernel
theorem dX7_count_77 : decode cX7_count 77 = .ok (.getfield 17, 3) := by decide +kernel
theorem dX7_count_80 : decode cX7_count 80 = .ok (.getfield 97, 3) := by decide +kernel
theorem dX7_count_83 : decode cX7_count 83 = .ok (.ireturn, 1) := by decide +kernel
theorem dX7_count_84 : decode cX7_count 84 = .ok (.aload_n 0, 1) := by decide +kernel
theorem dX7_count_85 : decode cX7_count 85 = .ok (.getfield 51, 3) := by decide +kernel
theorem dX7_count_88 : decode cX7_count 88 = .ok (.getfield 124, 3) := by decide +kernel
theorem dX7_count_91 : decode cX7_count 91 = .ok (.ireturn, 1) := by decide +kernel
theorem dX7_count_92 : decode cX7_count 92 = .ok (.aload_n 0, 1) := by decide +kernel
theorem dX7_count_93 : decode cX7_count 93 = .ok (.getfield 51, 3) := by decide +kernel
theorem dX7_count_96 : decode cX7_count 96 = .ok (.getfield 128, 3) := by decide +kernel
theorem dX7_count_99 : decode cX7_count 99 = .ok (.ireturn, 1) := by decide +kernel
theorem dX7_count_100 : decode cX7_count 100 = .ok (.aload_n 0, 1) := by decide +kernel
theorem dX7_count_101 : decode cX7_count 101 = .ok (.getfield 37, 3) := by decide +kernel
theorem dX7_count_104 : decode cX7_count 104 = .ok (.invokevirtual 131, 3) := by decide +kernel
theorem dX7_count_107 : decode cX7_count 107 = .ok (.aload_n 0, 1) := by decide +kernel
theorem dX7_count_108 : decode cX7_count 108 = .ok (.getfield 37, 3) := by decide +kernel
theorem dX7_count_111 : decode cX7_count 111 = .ok (.getfield 134, 3) := by decide +kernel
theorem dX7_count_114 : decode cX7_count 114 = .ok (.ireturn, 1) := by decide +kernel
theorem dX7_count_115 : decode cX7_count 115 = .ok (.aload_n 0, 1) := by decide +kernel
theorem dX7_count_116 : decode cX7_count 116 = .ok (.iload_n 1, 1) := by decide +kernel
theorem dX7_count_117 : decode cX7_count 117 = .ok (.invokevirtual 137, 3) := by decide +kernel
theorem dX7_count_120 : decode cX7_count 120 = .ok (.ireturn, 1) := by decide +kernel
set_option maxRecDepth 20000 in
theorem ggX7_of_X3_isPin : GoodIn wsX7_of wsX3_isPin := goodIn_r _ [11, 12, 34, 35, 36, 37, 38, 39, 40, 41, 42, 43] (by decide +kernel) (by decide +kernel)
set_option maxRecDepth 20000 in
theorem gX7_of_X3_isPin : GoodIn wsX7_of (wsV RX7 74 RX3 yX3_isPin wsX3_isPin) := goodIn_app (goodIn_of _ (by decide +kernel)) ggX7_of_X3_isPin
set_option maxRecDepth 20000 in
theorem ggX7_of_X7_need : GoodIn wsX7_of wsX7_need := goodIn_ca (goodIn_r _ [16, 1, 2] (by decide +kernel) (by decide +kernel)) (goodIn_sub (fun _ h => List.mem_cons_of_mem _ (List.mem_append_right _ h)) (by decide +kernel))
set_option maxRecDepth 20000 in
theorem gX7_of_X7_need : GoodIn wsX7_of (va_wsS RX7 140 yX7_need wsX7_need) := goodIn_app (goodIn_of _ (by decide +kernel)) ggX7_of_X7_need
set_option maxRecDepth 20000 in
theorem ggX7_of_X3_barsAt : GoodIn wsX7_of wsX3_barsAt := goodIn_r _ [20, 21, 22, 23, 24, 25, 15, 26, 34, 35, 36, 37, 38, 39, 40, 41, 42, 43] (by decide +kernel) (by decide +kernel)
set_option maxRecDepth 20000 in
theorem gX7_of_X3_barsAt : GoodIn wsX7_of (wsV RX7 147 RX3 yX3_barsAt wsX3_barsAt) := goodIn_app (goodIn_of _ (by decide +kernel)) ggX7_of_X3_barsAt
theorem dX7_of_0 : decode cX7_of 0 = .ok (.aload_n 0, 1) := by decide +kernel
theorem dX7_of_1 : decode cX7_of 1 = .ok (.getfield 17, 3) := by decide +kernel
theorem dX7_of_4 : decode cX7_of 4 = .ok (.iload_n 1, 1) := by decide +kernel
theorem dX7_of_5 : decode cX7_of 5 = .ok (.invokevirtual 74, 3) := by decide +kernel
theorem dX7_of_8 : decode cX7_of 8 = .ok (.invokestatic 140, 3) := by decide +kernel
theorem dX7_of_11 : decode cX7_of 11 = .ok (.iload_n 2, 1) := by decide +kernel
theorem dX7_of_12 : decode cX7_of 12 = .ok (.tableswitch 143 0 5 #[40, 52, 66, 78, 92, 134], 40) := by decide +kernel
theorem dX7_of_52 : decode cX7_of 52 = .ok (.aload_n 0, 1) := by decide +kernel
theorem dX7_of_53 : decode cX7_of 53 = .ok (.getfield 17, 3) := by decide +kernel
theorem dX7_of_56 : decode cX7_of 56 = .ok (.getfield 144, 3) := by decide +kernel
theorem dX7_of_59 : decode cX7_of 59 = .ok (.iconst 2, 1) := by decide +kernel
theorem dX7_of_60 : decode cX7_of 60 = .ok (.iload_n 1, 1) := by decide +kernel
theorem dX7_of_61 : decode cX7_of 61 = .ok (.imul, 1) := by decide +kernel
theorem dX7_of_62 : decode cX7_of 62 = .ok (.iaload, 1) := by decide +kernel
theorem dX7_of_63 : decode cX7_of 63 = .ok (.ireturn, 1) := by decide +kernel
theorem dX7_of_64 : decode cX7_of 64 = .ok (.aload_n 0, 1) := by decide +kernel
theorem dX7_of_65 : decode cX7_of 65 = .ok (.getfield 17, 3) := by decide +kernel
theorem dX7_of_68 : decode cX7_of 68 = .ok (.getfield 144, 3) := by decide +kernel
theorem dX7_of_71 : decode cX7_of 71 = .ok (.iconst 2, 1) := by decide +kernel
theorem dX7_of_72 : decode cX7_of 72 = .ok (.iload_n 1, 1) := by decide +kernel
theorem dX7_of_73 : decode cX7_of 73 = .ok (.imul, 1) := by decide +kernel
theorem dX7_of_74 : decode cX7_of 74 = .ok (.iconst 1, 1) := by decide +kernel
theorem dX7_of_75 : decode cX7_of 75 = .ok (.iadd, 1) := by decide +kernel
theorem dX7_of_76 : decode cX7_of 76 = .ok (.iaload, 1) := by decide +kernel
theorem dX7_of_77 : decode cX7_of 77 = .ok (.ireturn, 1) := by decide +kernel
theorem dX7_of_78 : decode cX7_of 78 = .ok (.aload_n 0, 1) := by decide +kernel
theorem dX7_of_79 : decode cX7_of 79 = .ok (.getfield 17, 3) := by decide +kernel
theorem dX7_of_82 : decode cX7_of 82 = .ok (.getfield 117, 3) := by decide +kernel
theorem dX7_of_85 : decode cX7_of 85 = .ok (.iconst 2, 1) := by decide +kernel
theorem dX7_of_86 : decode cX7_of 86 = .ok (.iload_n 1, 1) := by decide +kernel
theorem dX7_of_87 : decode cX7_of 87 = .ok (.imul, 1) := by decide +kernel
theorem dX7_of_88 : decode cX7_of 88 = .ok (.iaload, 1) := by decide +kernel
theorem dX7_of_89 : decode cX7_of 89 = .ok (.ireturn, 1) := by decide +kernel
theorem dX7_of_90 : decode cX7_of 90 = .ok (.aload_n 0, 1) := by decide +kernel
theorem dX7_of_91 : decode cX7_of 91 = .ok (.getfield 17, 3) := by decide +kernel
theorem dX7_of_94 : decode cX7_of 94 = .ok (.getfield 117, 3) := by decide +kernel
theorem dX7_of_97 : decode cX7_of 97 = .ok (.iconst 2, 1) := by decide +kernel
theorem dX7_of_98 : decode cX7_of 98 = .ok (.iload_n 1, 1) := by decide +kernel
theorem dX7_of_99 : decode cX7_of 99 = .ok (.imul, 1) := by decide +kernel
theorem dX7_of_100 : decode cX7_of 100 = .ok (.iconst 1, 1) := by decide +kernel
theorem dX7_of_101 : decode cX7_of 101 = .ok (.iadd, 1) := by decide +kernel
theorem dX7_of_102 : decode cX7_of 102 = .ok (.iaload, 1) := by decide +kernel
theorem dX7_of_103 : decode cX7_of 103 = .ok (.ireturn, 1) := by decide +kernel
theorem dX7_of_104 : decode cX7_of 104 = .ok (.aload_n 0, 1) := by decide +kernel
theorem dX7_of_105 : decode cX7_of 105 = .ok (.getfield 17, 3) := by decide +kernel
theorem dX7_of_108 : decode cX7_of 108 = .ok (.getfield 110, 3) := by decide +kernel
theorem dX7_of_111 : decode cX7_of 111 = .ok (.iconst 2, 1) := by decide +kernel
theorem dX7_of_112 : decode cX7_of 112 = .ok (.iload_n 1, 1) := by decide +kernel
theorem dX7_of_113 : decode cX7_of 113 = .ok (.imul, 1) := by decide +kernel
theorem dX7_of_114 : decode cX7_of 114 = .ok (.baload, 1) := by decide +kernel
theorem dX7_of_115 : decode cX7_of 115 = .ok (.ifCond .eq 7, 3) := by decide +kernel
theorem dX7_of_118 : decode cX7_of 118 = .ok (.iconst 1, 1) := by decide +kernel
theorem dX7_of_119 : decode cX7_of 119 = .ok (.goto 4, 3) := by decide +kernel
theorem dX7_of_122 : decode cX7_of 122 = .ok (.iconst 0, 1) := by decide +kernel
theorem dX7_of_123 : decode cX7_of 123 = .ok (.aload_n 0, 1) := by decide +kernel
theorem dX7_of_124 : decode cX7_of 124 = .ok (.getfield 17, 3) := by decide +kernel
theorem dX7_of_127 : decode cX7_of 127 = .ok (.getfield 110, 3) := by decide +kernel
theorem dX7_of_130 : decode cX7_of 130 = .ok (.iconst 2, 1) := by decide +kernel
theorem dX7_of_131 : decode cX7_of 131 = .ok (.iload_n 1, 1) := by decide +kernel
theorem dX7_of_132 : decode cX7_of 132 = .ok (.imul, 1) := by decide +kernel
theorem dX7_of_133 : decode cX7_of 133 = .ok (.iconst 1, 1) := by decide +kernel
theorem dX7_of_134 : decode cX7_of 134 = .ok (.iadd, 1) := by decide +kernel
theorem dX7_of_135 : decode cX7_of 135 = .ok (.baload, 1) := by decide +kernel
theorem dX7_of_136 : decode cX7_of 136 = .ok (.ifCond .eq 7, 3) := by decide +kernel
theorem dX7_of_139 : decode cX7_of 139 = .ok (.iconst 2, 1) := by decide +kernel
theorem dX7_of_140 : decode cX7_of 140 = .ok (.goto 4, 3) := by decide +kernel
theorem dX7_of_143 : decode cX7_of 143 = .ok (.iconst 0, 1) := by decide +kernel
theorem dX7_of_144 : decode cX7_of 144 = .ok (.iadd, 1) := by decide +kernel
theorem dX7_of_145 : decode cX7_of 145 = .ok (.ireturn, 1) := by decide +kernel
theorem dX7_of_146 : decode cX7_of 146 = .ok (.aload_n 0, 1) := by decide +kernel
theorem dX7_of_147 : decode cX7_of 147 = .ok (.getfield 17, 3) := by decide +kernel
theorem dX7_of_150 : decode cX7_of 150 = .ok (.iload_n 1, 1) := by decide +kernel
theorem dX7_of_151 : decode cX7_of 151 = .ok (.invokevirtual 147, 3) := by decide +kernel
theorem dX7_of_154 : decode cX7_of 154 = .ok (.ireturn, 1) := by decide +kernel
theorem dX7_of_155 : decode cX7_of 155 = .ok (.new 150, 3) := by decide +kernel
theorem dX7_of_158 : decode cX7_of 158 = .ok (.dup, 1) := by decide +kernel
theorem dX7_of_159 : decode cX7_of 159 = .ok (.invokespecial 152, 3) := by decide +kernel
theorem dX7_of_162 : decode cX7_of 162 = .ok (.athrow, 1) := by decide +kernel
set_option maxRecDepth 20000 in
theorem ggX7_at_X3_isBar : GoodIn wsX7_at wsX3_isBar := goodIn_r _ [14, 15, 96, 97, 98, 99, 100, 101, 102, 103, 104, 105] (by decide +kernel) (by decide +kernel)
set_option maxRecDepth 20000 in
theorem gX7_at_X3_isBar : GoodIn wsX7_at (wsV RX7 91 RX3 yX3_isBar wsX3_isBar) := goodIn_app (goodIn_of _ (by decide +kernel)) ggX7_at_X3_isBar
set_option maxRecDepth 20000 in
theorem ggX7_at_X7_need : GoodIn wsX7_at wsX7_need := goodIn_ca (goodIn_r _ [19, 1, 2] (by decide +kernel) (by decide +kernel)) (goodIn_sub (fun _ h => List.mem_cons_of_mem _ (List.mem_append_right _ h)) (by decide +kernel))
set_option maxRecDepth 20000 in
theorem gX7_at_X7_need : GoodIn wsX7_at (va_wsS RX7 140 yX7_need wsX7_need) := goodIn_app (goodIn_of _ (by decide +kernel)) ggX7_at_X7_need
set_option maxRecDepth 20000 in
theorem ggX7_at_X3_isOn : GoodIn wsX7_at wsX3_isOn := goodIn_r _ [23, 24, 25, 11, 12, 13, 14, 15, 26, 18, 27, 96, 97, 98, 99, 100, 101, 102, 103, 104, 105] (by decide +kernel) (by decide +kernel)
set_option maxRecDepth 20000 in
theorem gX7_at_X3_isOn : GoodIn wsX7_at (wsV RX7 94 RX3 yX3_isOn wsX3_isOn) := goodIn_app (goodIn_of _ (by decide +kernel)) ggX7_at_X3_isOn
set_option maxRecDepth 20000 in
theorem ggX7_at_X0_settle : GoodIn wsX7_at wsX0_settle := goodIn_r _ [32, 33, 34, 35, 36, 37, 38, 39, 40, 31, 41, 42, 43, 44, 45, 46, 47, 48, 49, 50, 51, 52, 53, 54, 13, 55, 56, 57, 58, 59, 60, 61, 62, 26, 18, 27, 63, 64, 65, 66, 67, 68, 69, 70, 71, 72, 73, 74, 75, 76, 77, 106, 107, 108, 109, 110, 111, 112, 113, 114, 96, 97, 98, 99, 100, 101, 102, 103, 104, 105] (by decide +kernel) (by decide +kernel)
set_option maxRecDepth 20000 in
theorem gX7_at_X0_settle : GoodIn wsX7_at (wsV RX7 159 RX0 yX0_settle wsX0_settle) := goodIn_app (goodIn_of _ (by decide +kernel)) ggX7_at_X0_settle
set_option maxRecDepth 20000 in
theorem ggX7_at_X0_spareNumber : GoodIn wsX7_at wsX0_spareNumber := goodIn_r _ [81, 36, 26, 18, 27, 82, 83, 84, 85, 86, 87, 88, 106, 107, 108, 109, 110, 111, 112, 113, 114] (by decide +kernel) (by decide +kernel)
set_option maxRecDepth 20000 in
theorem gX7_at_X0_spareNumber : GoodIn wsX7_at (wsV RX7 163 RX0 yX0_spareNumber wsX0_spareNumber) := goodIn_app (goodIn_of _ (by decide +kernel)) ggX7_at_X0_spareNumber
theorem dX7_at_0 : decode cX7_at 0 = .ok (.aload_n 0, 1) := by decide +kernel
theorem dX7_at_1 : decode cX7_at 1 = .ok (.getfield 17, 3) := by decide +kernel
theorem dX7_at_4 : decode cX7_at 4 = .ok (.iload_n 1, 1) := by decide +kernel
theorem dX7_at_5 : decode cX7_at 5 = .ok (.invokevirtual 91, 3) := by decide +kernel
theorem dX7_at_8 : decode cX7_at 8 = .ok (.invokestatic 140, 3) := by decide +kernel
theorem dX7_at_11 : decode cX7_at 11 = .ok (.iload_n 2, 1) := by decide +kernel
theorem dX7_at_12 : decode cX7_at 12 = .ok (.tableswitch 120 0 5 #[40, 50, 60, 70, 80, 97], 40) := by decide +kernel
theorem dX7_at_52 : decode cX7_at 52 = .ok (.aload_n 0, 1) := by decide +kernel
theorem dX7_at_53 : decode cX7_at 53 = .ok (.getfield 17, 3) := by decide +kernel
theorem dX7_at_56 : decode cX7_at 56 = .ok (.getfield 153, 3) := by decide +kernel
theorem dX7_at_59 : decode cX7_at 59 = .ok (.iload_n 1, 1) := by decide +kernel
theorem dX7_at_60 : decode cX7_at 60 = .ok (.iaload, 1) := by decide +kernel
theorem dX7_at_61 : decode cX7_at 61 = .ok (.ireturn, 1) := by decide +kernel
theorem dX7_at_62 : decode cX7_at 62 = .ok (.aload_n 0, 1) := by decide +kernel
theorem dX7_at_63 : decode cX7_at 63 = .ok (.getfield 17, 3) := by decide +kernel
theorem dX7_at_66 : decode cX7_at 66 = .ok (.getfield 156, 3) := by decide +kernel
theorem dX7_at_69 : decode cX7_at 69 = .ok (.iload_n 1, 1) := by decide +kernel
theorem dX7_at_70 : decode cX7_at 70 = .ok (.iaload, 1) := by decide +kernel
theorem dX7_at_71 : decode cX7_at 71 = .ok (.ireturn, 1) := by decide +kernel
theorem dX7_at_72 : decode cX7_at 72 = .ok (.aload_n 0, 1) := by decide +kernel
theorem dX7_at_73 : decode cX7_at 73 = .ok (.getfield 17, 3) := by decide +kernel
theorem dX7_at_76 : decode cX7_at 76 = .ok (.getfield 104, 3) := by decide +kernel
theorem dX7_at_79 : decode cX7_at 79 = .ok (.iload_n 1, 1) := by decide +kernel
theorem dX7_at_80 : decode cX7_at 80 = .ok (.iaload, 1) := by decide +kernel
theorem dX7_at_81 : decode cX7_at 81 = .ok (.ireturn, 1) := by decide +kernel
theorem dX7_at_82 : decode cX7_at 82 = .ok (.aload_n 0, 1) := by decide +kernel
theorem dX7_at_83 : decode cX7_at 83 = .ok (.getfield 17, 3) := by decide +kernel
theorem dX7_at_86 : decode cX7_at 86 = .ok (.getfield 100, 3) := by decide +kernel
theorem dX7_at_89 : decode cX7_at 89 = .ok (.iload_n 1, 1) := by decide +kernel
theorem dX7_at_90 : decode cX7_at 90 = .ok (.iaload, 1) := by decide +kernel
theorem dX7_at_91 : decode cX7_at 91 = .ok (.ireturn, 1) := by decide +kernel
theorem dX7_at_92 : decode cX7_at 92 = .ok (.aload_n 0, 1) := by decide +kernel
theorem dX7_at_93 : decode cX7_at 93 = .ok (.getfield 17, 3) := by decide +kernel
theorem dX7_at_96 : decode cX7_at 96 = .ok (.iload_n 1, 1) := by decide +kernel
theorem dX7_at_97 : decode cX7_at 97 = .ok (.invokevirtual 94, 3) := by decide +kernel
theorem dX7_at_100 : decode cX7_at 100 = .ok (.ifCond .eq 7, 3) := by decide +kernel
theorem dX7_at_103 : decode cX7_at 103 = .ok (.iconst 1, 1) := by decide +kernel
theorem dX7_at_104 : decode cX7_at 104 = .ok (.goto 4, 3) := by decide +kernel
theorem dX7_at_107 : decode cX7_at 107 = .ok (.iconst 0, 1) := by decide +kernel
theorem dX7_at_108 : decode cX7_at 108 = .ok (.ireturn, 1) := by decide +kernel
theorem dX7_at_109 : decode cX7_at 109 = .ok (.aload_n 0, 1) := by decide +kernel
theorem dX7_at_110 : decode cX7_at 110 = .ok (.getfield 21, 3) := by decide +kernel
theorem dX7_at_113 : decode cX7_at 113 = .ok (.aload_n 0, 1) := by decide +kernel
theorem dX7_at_114 : decode cX7_at 114 = .ok (.getfield 17, 3) := by decide +kernel
theorem dX7_at_117 : decode cX7_at 117 = .ok (.getfield 97, 3) := by decide +kernel
theorem dX7_at_120 : decode cX7_at 120 = .ok (.invokevirtual 159, 3) := by decide +kernel
theorem dX7_at_123 : decode cX7_at 123 = .ok (.aload_n 0, 1) := by decide +kernel
theorem dX7_at_124 : decode cX7_at 124 = .ok (.getfield 21, 3) := by decide +kernel
theorem dX7_at_127 : decode cX7_at 127 = .ok (.iload_n 1, 1) := by decide +kernel
theorem dX7_at_128 : decode cX7_at 128 = .ok (.invokevirtual 163, 3) := by decide +kernel
theorem dX7_at_131 : decode cX7_at 131 = .ok (.ireturn, 1) := by decide +kernel
theorem dX7_at_132 : decode cX7_at 132 = .ok (.new 150, 3) := by decide +kernel
theorem dX7_at_135 : decode cX7_at 135 = .ok (.dup, 1) := by decide +kernel
theorem dX7_at_136 : decode cX7_at 136 = .ok (.invokespecial 152, 3) := by decide +kernel
theorem dX7_at_139 : decode cX7_at 139 = .ok (.athrow, 1) := by decide +kernel
set_option maxRecDepth 20000 in
theorem ggX7_pull_X3_isOn : GoodIn wsX7_pull wsX3_isOn := goodIn_r _ [8, 9, 10, 11, 12, 7, 13, 14, 15, 16, 17, 183, 184, 185, 186, 187, 188, 189, 190, 191, 192] (by decide +kernel) (by decide +kernel)
set_option maxRecDepth 20000 in
theorem gX7_pull_X3_isOn : GoodIn wsX7_pull (wsV RX7 94 RX3 yX3_isOn wsX3_isOn) := goodIn_app (goodIn_of _ (by decide +kernel)) ggX7_pull_X3_isOn
set_option maxRecDepth 20000 in
theorem ggX7_pull_X7_bears : GoodIn wsX7_pull wsX7_bears := goodIn_r _ [21, 22, 23, 24, 25, 26, 27, 28, 29, 30, 31, 32, 33, 34, 35, 36, 37, 38, 39, 40, 41, 42, 43, 44, 45, 46, 47, 48, 49, 50, 7, 51, 52, 53, 54, 55, 56, 57, 58, 15, 16, 17, 59, 60, 61, 62, 63, 64, 65, 66, 67, 68, 69, 70, 71, 72, 73, 74, 75, 76, 77, 78, 79, 80, 81, 82, 83, 84, 85, 86, 87, 88, 89, 90, 91, 92, 93, 94, 95, 96, 97, 98, 99, 100, 101, 102, 103, 104, 105, 106, 107, 108, 109, 110, 111, 112, 113, 114, 115, 116, 117, 118, 119, 120, 121, 122, 123, 124, 125, 126, 127, 128, 129, 130, 131, 132, 133, 176, 177, 178, 179, 180, 181, 182, 193, 194, 195, 196, 197, 198, 199, 200, 201, 183, 184, 185, 186, 187, 188, 189, 190, 191, 192, 202, 203, 204, 205, 206, 207, 208] (by decide +kernel) (by decide +kernel)
set_option maxRecDepth 20000 in
theorem gX7_pull_X7_bears : GoodIn wsX7_pull (wsV RX7 166 RX7 yX7_bears wsX7_bears) := goodIn_app (goodIn_of _ (by decide +kernel)) ggX7_pull_X7_bears
set_option maxRecDepth 20000 in
theorem ggX7_pull_X7_need : GoodIn wsX7_pull wsX7_need := goodIn_ca (goodIn_r _ [136, 137, 138] (by decide +kernel) (by decide +kernel)) (goodIn_sub (fun _ h => List.mem_cons_of_mem _ (List.mem_append_right _ h)) (by decide +kernel))
set_option maxRecDepth 20000 in
theorem gX7_pull_X7_need : GoodIn wsX7_pull (va_wsS RX7 140 yX7_need wsX7_need) := goodIn_app (goodIn_of _ (by decide +kernel)) ggX7_pull_X7_need
set_option maxRecDepth 20000 in
theorem ggX7_pull_X7_toldPull : GoodIn wsX7_pull wsX7_toldPull := goodIn_r _ [142, 23, 143, 144, 145, 146, 92, 147, 94, 118, 148, 149, 150, 151, 95, 96, 105, 97, 99, 113, 72, 16, 73, 152, 153, 154, 155, 127, 156, 157, 158, 159, 160, 161, 162, 163, 164, 165, 166, 167, 168, 169, 80, 170, 171, 172, 173, 174, 175, 176, 177, 178, 179, 180, 181, 182, 202, 203, 204, 205, 206, 207, 208, 183, 184, 185, 186, 187, 188, 189, 190, 191, 192, 193, 194, 195, 196, 197, 198, 199, 200, 201, 209, 210] (by decide +kernel) (by decide +kernel)
set_option maxRecDepth 20000 in
theorem gX7_pull_X7_toldPull : GoodIn wsX7_pull (wsV RX7 170 RX7 yX7_toldPull wsX7_toldPull) := goodIn_app (goodIn_of _ (by decide +kernel)) ggX7_pull_X7_toldPull
theorem dX7_pull_0 : decode cX7_pull 0 = .ok (.aload_n 0, 1) := by decide +kernel
theorem dX7_pull_1 : decode cX7_pull 1 = .ok (.getfield 17, 3) := by decide +kernel
theorem dX7_pull_4 : decode cX7_pull 4 = .ok (.iload_n 1, 1) := by decide +kernel
theorem dX7_pull_5 : decode cX7_pull 5 = .ok (.invokevirtual 94, 3) := by decide +kernel
theorem dX7_pull_8 : decode cX7_pull 8 = .ok (.ifCond .eq 28, 3) := by decide +kernel
theorem dX7_pull_11 : decode cX7_pull 11 = .ok (.aload_n 0, 1) := by decide +kernel
theorem dX7_pull_12 : decode cX7_pull 12 = .ok (.aload_n 0, 1) := by decide +kernel
theorem dX7_pull_13 : decode cX7_pull 13 = .ok (.getfield 17, 3) := by decide +kernel
theorem dX7_pull_16 : decode cX7_pull 16 = .ok (.getfield 97, 3) := by decide +kernel
theorem dX7_pull_19 : decode cX7_pull 19 = .ok (.aload_n 0, 1) := by decide +kernel
theorem dX7_pull_20 : decode cX7_pull 20 = .ok (.getfield 17, 3) := by decide +kernel
theorem dX7_pull_23 : decode cX7_pull 23 = .ok (.getfield 117, 3) := by decide +kernel
theorem dX7_pull_26 : decode cX7_pull 26 = .ok (.invokevirtual 166, 3) := by decide +kernel
theorem dX7_pull_29 : decode cX7_pull 29 = .ok (.ifCond .eq 7, 3) := by decide +kernel
theorem dX7_pull_32 : decode cX7_pull 32 = .ok (.iconst 1, 1) := by decide +kernel
theorem dX7_pull_33 : decode cX7_pull 33 = .ok (.goto 4, 3) := by decide +kernel
theorem dX7_pull_36 : decode cX7_pull 36 = .ok (.iconst 0, 1) := by decide +kernel
theorem dX7_pull_37 : decode cX7_pull 37 = .ok (.invokestatic 140, 3) := by decide +kernel
theorem dX7_pull_40 : decode cX7_pull 40 = .ok (.aload_n 0, 1) := by decide +kernel
theorem dX7_pull_41 : decode cX7_pull 41 = .ok (.iload_n 1, 1) := by decide +kernel
theorem dX7_pull_42 : decode cX7_pull 42 = .ok (.iload_n 2, 1) := by decide +kernel
theorem dX7_pull_43 : decode cX7_pull 43 = .ok (.invokevirtual 170, 3) := by decide +kernel
theorem dX7_pull_46 : decode cX7_pull 46 = .ok (.lreturn, 1) := by decide +kernel
set_option maxRecDepth 20000 in
theorem ggX7_state_X3_isOn : GoodIn wsX7_state wsX3_isOn := goodIn_r _ [11, 12, 13, 14, 15, 10, 16, 17, 18, 19, 20, 169, 170, 171, 172, 173, 174, 175, 176, 177, 178] (by decide +kernel) (by decide +kernel)
set_option maxRecDepth 20000 in
theorem gX7_state_X3_isOn : GoodIn wsX7_state (wsV RX7 94 RX3 yX3_isOn wsX3_isOn) := goodIn_app (goodIn_of _ (by decide +kernel)) ggX7_state_X3_isOn
set_option maxRecDepth 20000 in
theorem ggX7_state_X7_bears : GoodIn wsX7_state wsX7_bears := goodIn_r _ [24, 5, 4, 25, 26, 27, 28, 29, 30, 31, 32, 33, 34, 35, 36, 37, 38, 39, 40, 41, 42, 43, 44, 45, 46, 47, 48, 49, 50, 51, 10, 52, 53, 54, 55, 56, 57, 58, 59, 18, 19, 20, 60, 61, 62, 63, 64, 65, 66, 67, 68, 69, 70, 71, 72, 73, 74, 75, 76, 77, 78, 79, 80, 81, 82, 83, 84, 85, 86, 87, 88, 89, 90, 91, 92, 93, 94, 95, 96, 97, 98, 99, 100, 101, 102, 103, 104, 105, 106, 107, 108, 109, 110, 111, 112, 113, 114, 115, 116, 117, 118, 119, 120, 121, 122, 123, 124, 125, 126, 127, 128, 129, 130, 131, 132, 133, 134, 162, 163, 164, 165, 166, 167, 168, 179, 180, 181, 182, 183, 184, 185, 186, 187, 169, 170, 171, 172, 173, 174, 175, 176, 177, 178, 188, 189, 190, 191, 192, 193, 194] (by decide +kernel) (by decide +kernel)
set_option maxRecDepth 20000 in
theorem gX7_state_X7_bears : GoodIn wsX7_state (wsV RX7 166 RX7 yX7_bears wsX7_bears) := goodIn_app (goodIn_of _ (by decide +kernel)) ggX7_state_X7_bears
set_option maxRecDepth 20000 in
theorem ggX7_state_X5_isSpare : GoodIn wsX7_state wsX5_isSpare := goodIn_r _ [123, 95, 188, 189, 190, 191, 192, 193, 194] (by decide +kernel) (by decide +kernel)
set_option maxRecDepth 20000 in
theorem gX7_state_X5_isSpare : GoodIn wsX7_state (wsV RX7 174 RX5 yX5_isSpare wsX5_isSpare) := goodIn_app (goodIn_of _ (by decide +kernel)) ggX7_state_X5_isSpare
set_option maxRecDepth 20000 in
theorem ggX7_state_X7_need : GoodIn wsX7_state wsX7_need := goodIn_ca (goodIn_r _ [138, 139, 140] (by decide +kernel) (by decide +kernel)) (goodIn_sub (fun _ h => List.mem_cons_of_mem _ (List.mem_append_right _ h)) (by decide +kernel))
set_option maxRecDepth 20000 in
theorem gX7_state_X7_need : GoodIn wsX7_state (va_wsS RX7 140 yX7_need wsX7_need) := goodIn_app (goodIn_of _ (by decide +kernel)) ggX7_state_X7_need
set_option maxRecDepth 20000 in
theorem ggX7_state_X5_stateOf : GoodIn wsX7_state wsX5_stateOf := goodIn_r _ [118, 106, 119, 120, 121, 122, 93, 123, 95, 188, 189, 190, 191, 192, 193, 194] (by decide +kernel) (by decide +kernel)
set_option maxRecDepth 20000 in
theorem gX7_state_X5_stateOf : GoodIn wsX7_state (wsV RX7 177 RX5 yX5_stateOf wsX5_stateOf) := goodIn_app (goodIn_of _ (by decide +kernel)) ggX7_state_X5_stateOf
set_option maxRecDepth 20000 in
theorem ggX7_state_X7_told : GoodIn wsX7_state wsX7_told := goodIn_r _ [145, 146, 147, 148, 149, 150, 151, 152, 153, 154, 155, 81, 156, 157, 158, 159, 160, 161, 73, 19, 74, 162, 163, 164, 165, 166, 167, 168, 195, 196] (by decide +kernel) (by decide +kernel)
set_option maxRecDepth 20000 in
theorem gX7_state_X7_told : GoodIn wsX7_state (wsV RX7 185 RX7 yX7_told wsX7_told) := goodIn_app (goodIn_of _ (by decide +kernel)) ggX7_state_X7_told
theorem dX7_state_0 : decode cX7_state 0 = .ok (.aload_n 0, 1) := by decide +kernel
theorem dX7_state_1 : decode cX7_state 1 = .ok (.getfield 17, 3) := by decide +kernel
theorem dX7_state_4 : decode cX7_state 4 = .ok (.iload_n 2, 1) := by decide +kernel
theorem dX7_state_5 : decode cX7_state 5 = .ok (.invokevirtual 94, 3) := by decide +kernel
theorem dX7_state_8 : decode cX7_state 8 = .ok (.ifCond .eq 44, 3) := by decide +kernel
theorem dX7_state_11 : decode cX7_state 11 = .ok (.aload_n 0, 1) := by decide +kernel
theorem dX7_state_12 : decode cX7_state 12 = .ok (.aload_n 0, 1) := by decide +kernel
theorem dX7_state_13 : decode cX7_state 13 = .ok (.getfield 17, 3) := by decide +kernel
theorem dX7_state_16 : decode cX7_state 16 = .ok (.getfield 97, 3) := by decide +kernel
theorem dX7_state_19 : decode cX7_state 19 = .ok (.aload_n 0, 1) := by decide +kernel
theorem dX7_state_20 : decode cX7_state 20 = .ok (.getfield 17, 3) := by decide +kernel
theorem dX7_state_23 : decode cX7_state 23 = .ok (.getfield 117, 3) := by decide +kernel
theorem dX7_state_26 : decode cX7_state 26 = .ok (.invokevirtual 166, 3) := by decide +kernel
theorem dX7_state_29 : decode cX7_state 29 = .ok (.ifCond .eq 23, 3) := by decide +kernel
theorem dX7_state_32 : decode cX7_state 32 = .ok (.iload_n 1, 1) := by decide +kernel
theorem dX7_state_33 : decode cX7_state 33 = .ok (.iconst (-1), 1) := by decide +kernel
theorem dX7_state_34 : decode cX7_state 34 = .ok (.if_icmp .eq 14, 3) := by decide +kernel
theorem dX7_state_37 : decode cX7_state 37 = .ok (.aload_n 0, 1) := by decide +kernel
theorem dX7_state_38 : decode cX7_state 38 = .ok (.getfield 30, 3) := by decide +kernel
theorem dX7_state_41 : decode cX7_state 41 = .ok (.iload_n 1, 1) := by decide +kernel
theorem dX7_state_42 : decode cX7_state 42 = .ok (.invokevirtual 174, 3) := by decide +kernel
theorem dX7_state_45 : decode cX7_state 45 = .ok (.ifCond .eq 7, 3) := by decide +kernel
theorem dX7_state_48 : decode cX7_state 48 = .ok (.iconst 1, 1) := by decide +kernel
theorem dX7_state_49 : decode cX7_state 49 = .ok (.goto 4, 3) := by decide +kernel
theorem dX7_state_52 : decode cX7_state 52 = .ok (.iconst 0, 1) := by decide +kernel
theorem dX7_state_53 : decode cX7_state 53 = .ok (.invokestatic 140, 3) := by decide +kernel
theorem dX7_state_56 : decode cX7_state 56 = .ok (.aload_n 0, 1) := by decide +kernel
theorem dX7_state_57 : decode cX7_state 57 = .ok (.aload_n 0, 1) := by decide +kernel
theorem dX7_state_58 : decode cX7_state 58 = .ok (.getfield 30, 3) := by decide +kernel
theorem dX7_state_61 : decode cX7_state 61 = .ok (.iload_n 1, 1) := by decide +kernel
theorem dX7_state_62 : decode cX7_state 62 = .ok (.iload_n 2, 1) := by decide +kernel
theorem dX7_state_63 : decode cX7_state 63 = .ok (.invokevirtual 177, 3) := by decide +kernel
theorem dX7_state_66 : decode cX7_state 66 = .ok (.aload_n 0, 1) := by decide +kernel
theorem dX7_state_67 : decode cX7_state 67 = .ok (.getfield 21, 3) := by decide +kernel
theorem dX7_state_70 : decode cX7_state 70 = .ok (.getfield 181, 3) := by decide +kernel
theorem dX7_state_73 : decode cX7_state 73 = .ok (.iload_n 3, 1) := by decide +kernel
theorem dX7_state_74 : decode cX7_state 74 = .ok (.invokevirtual 185, 3) := by decide +kernel
theorem dX7_state_77 : decode cX7_state 77 = .ok (.lreturn, 1) := by decide +kernel
set_option maxRecDepth 20000 in
theorem ggX7_flex_X7_bears : GoodIn wsX7_flex wsX7_bears := goodIn_r _ [11, 5, 4, 12, 13, 14, 15, 16, 17, 18, 19, 20, 21, 22, 23, 24, 25, 26, 27, 28, 29, 30, 31, 32, 33, 34, 35, 36, 37, 38, 39, 40, 41, 42, 43, 44, 45, 46, 47, 48, 10, 49, 50, 51, 52, 53, 54, 55, 56, 57, 58, 59, 60, 61, 62, 63, 64, 65, 66, 67, 68, 69, 70, 71, 72, 73, 74, 75, 76, 77, 78, 79, 80, 81, 82, 83, 84, 85, 86, 87, 88, 89, 90, 91, 92, 93, 94, 95, 96, 97, 98, 99, 100, 101, 102, 103, 104, 105, 106, 107, 108, 109, 110, 111, 112, 113, 114, 115, 116, 117, 118, 119, 120, 121, 122, 123, 124, 152, 153, 154, 155, 156, 157, 158, 169, 170, 171, 172, 173, 174, 175, 176, 177, 159, 160, 161, 162, 163, 164, 165, 166, 167, 168, 178, 179, 180, 181, 182, 183, 184] (by decide +kernel) (by decide +kernel)
set_option maxRecDepth 20000 in
theorem gX7_flex_X7_bears : GoodIn wsX7_flex (wsV RX7 166 RX7 yX7_bears wsX7_bears) := goodIn_app (goodIn_of _ (by decide +kernel)) ggX7_flex_X7_bears
set_option maxRecDepth 20000 in
theorem ggX7_flex_X5_isSpare : GoodIn wsX7_flex wsX5_isSpare := goodIn_r _ [113, 85, 178, 179, 180, 181, 182, 183, 184] (by decide +kernel) (by decide +kernel)
set_option maxRecDepth 20000 in
theorem gX7_flex_X5_isSpare : GoodIn wsX7_flex (wsV RX7 174 RX5 yX5_isSpare wsX5_isSpare) := goodIn_app (goodIn_of _ (by decide +kernel)) ggX7_flex_X5_isSpare
set_option maxRecDepth 20000 in
theorem ggX7_flex_X7_need : GoodIn wsX7_flex wsX7_need := goodIn_ca (goodIn_r _ [128, 129, 130] (by decide +kernel) (by decide +kernel)) (goodIn_sub (fun _ h => List.mem_cons_of_mem _ (List.mem_append_right _ h)) (by decide +kernel))
set_option maxRecDepth 20000 in
theorem gX7_flex_X7_need : GoodIn wsX7_flex (va_wsS RX7 140 yX7_need wsX7_need) := goodIn_app (goodIn_of _ (by decide +kernel)) ggX7_flex_X7_need
set_option maxRecDepth 20000 in
theorem ggX7_flex_X5_giving : GoodIn wsX7_flex wsX5_giving := goodIn_r _ [103, 86, 87, 104, 105, 106, 107, 83, 108, 96, 109, 110, 111, 112, 113, 85, 178, 179, 180, 181, 182, 183, 184, 159, 160, 161, 162, 163, 164, 165, 166, 167, 168] (by decide +kernel) (by decide +kernel)
set_option maxRecDepth 20000 in
theorem gX7_flex_X5_giving : GoodIn wsX7_flex (wsV RX7 189 RX5 yX5_giving wsX5_giving) := goodIn_app (goodIn_of _ (by decide +kernel)) ggX7_flex_X5_giving
set_option maxRecDepth 20000 in
theorem ggX7_flex_X7_told : GoodIn wsX7_flex wsX7_told := goodIn_r _ [135, 136, 137, 138, 139, 140, 141, 142, 143, 144, 145, 71, 146, 147, 148, 149, 150, 151, 63, 10, 64, 152, 153, 154, 155, 156, 157, 158, 185, 186] (by decide +kernel) (by decide +kernel)
set_option maxRecDepth 20000 in
theorem gX7_flex_X7_told : GoodIn wsX7_flex (wsV RX7 185 RX7 yX7_told wsX7_told) := goodIn_app (goodIn_of _ (by decide +kernel)) ggX7_flex_X7_told
theorem dX7_flex_0 : decode cX7_flex 0 = .ok (.aload_n 0, 1) := by decide +kernel
theorem dX7_flex_1 : decode cX7_flex 1 = .ok (.aload_n 0, 1) := by decide +kernel
theorem dX7_flex_2 : decode cX7_flex 2 = .ok (.getfield 17, 3) := by decide +kernel
theorem dX7_flex_5 : decode cX7_flex 5 = .ok (.getfield 97, 3) := by decide +kernel
theorem dX7_flex_8 : decode cX7_flex 8 = .ok (.aload_n 0, 1) := by decide +kernel
theorem dX7_flex_9 : decode cX7_flex 9 = .ok (.getfield 17, 3) := by decide +kernel
theorem dX7_flex_12 : decode cX7_flex 12 = .ok (.getfield 117, 3) := by decide +kernel
theorem dX7_flex_15 : decode cX7_flex 15 = .ok (.invokevirtual 166, 3) := by decide +kernel
theorem dX7_flex_18 : decode cX7_flex 18 = .ok (.ifCond .eq 34, 3) := by decide +kernel
theorem dX7_flex_21 : decode cX7_flex 21 = .ok (.aload_n 0, 1) := by decide +kernel
theorem dX7_flex_22 : decode cX7_flex 22 = .ok (.getfield 30, 3) := by decide +kernel
theorem dX7_flex_25 : decode cX7_flex 25 = .ok (.iload_n 1, 1) := by decide +kernel
theorem dX7_flex_26 : decode cX7_flex 26 = .ok (.invokevirtual 174, 3) := by decide +kernel
theorem dX7_flex_29 : decode cX7_flex 29 = .ok (.ifCond .eq 23, 3) := by decide +kernel
theorem dX7_flex_32 : decode cX7_flex 32 = .ok (.iload_n 2, 1) := by decide +kernel
theorem dX7_flex_33 : decode cX7_flex 33 = .ok (.iconst (-1), 1) := by decide +kernel
theorem dX7_flex_34 : decode cX7_flex 34 = .ok (.if_icmp .eq 14, 3) := by decide +kernel
theorem dX7_flex_37 : decode cX7_flex 37 = .ok (.aload_n 0, 1) := by decide +kernel
theorem dX7_flex_38 : decode cX7_flex 38 = .ok (.getfield 30, 3) := by decide +kernel
theorem dX7_flex_41 : decode cX7_flex 41 = .ok (.iload_n 2, 1) := by decide +kernel
theorem dX7_flex_42 : decode cX7_flex 42 = .ok (.invokevirtual 174, 3) := by decide +kernel
theorem dX7_flex_45 : decode cX7_flex 45 = .ok (.ifCond .eq 7, 3) := by decide +kernel
theorem dX7_flex_48 : decode cX7_flex 48 = .ok (.iconst 1, 1) := by decide +kernel
theorem dX7_flex_49 : decode cX7_flex 49 = .ok (.goto 4, 3) := by decide +kernel
theorem dX7_flex_52 : decode cX7_flex 52 = .ok (.iconst 0, 1) := by decide +kernel
theorem dX7_flex_53 : decode cX7_flex 53 = .ok (.invokestatic 140, 3) := by decide +kernel
theorem dX7_flex_56 : decode cX7_flex 56 = .ok (.aload_n 0, 1) := by decide +kernel
theorem dX7_flex_57 : decode cX7_flex 57 = .ok (.aload_n 0, 1) := by decide +kernel
theorem dX7_flex_58 : decode cX7_flex 58 = .ok (.getfield 30, 3) := by decide +kernel
theorem dX7_flex_61 : decode cX7_flex 61 = .ok (.iload_n 1, 1) := by decide +kernel
theorem dX7_flex_62 : decode cX7_flex 62 = .ok (.iload_n 2, 1) := by decide +kernel
theorem dX7_flex_63 : decode cX7_flex 63 = .ok (.invokevirtual 189, 3) := by decide +kernel
theorem dX7_flex_66 : decode cX7_flex 66 = .ok (.aload_n 0, 1) := by decide +kernel
theorem dX7_flex_67 : decode cX7_flex 67 = .ok (.getfield 21, 3) := by decide +kernel
theorem dX7_flex_70 : decode cX7_flex 70 = .ok (.getfield 181, 3) := by decide +kernel
theorem dX7_flex_73 : decode cX7_flex 73 = .ok (.aload_n 0, 1) := by decide +kernel
theorem dX7_flex_74 : decode cX7_flex 74 = .ok (.getfield 21, 3) := by decide +kernel
theorem dX7_flex_77 : decode cX7_flex 77 = .ok (.getfield 181, 3) := by decide +kernel
theorem dX7_flex_80 : decode cX7_flex 80 = .ok (.lmul, 1) := by decide +kernel
theorem dX7_flex_81 : decode cX7_flex 81 = .ok (.iload_n 3, 1) := by decide +kernel
theorem dX7_flex_82 : decode cX7_flex 82 = .ok (.invokevirtual 185, 3) := by decide +kernel
theorem dX7_flex_85 : decode cX7_flex 85 = .ok (.lreturn, 1) := by decide +kernel
set_option maxRecDepth 20000 in
theorem ggX7_force_X3_isPin : GoodIn wsX7_force wsX3_isPin := goodIn_r _ [12, 13, 190, 191, 192, 193, 194, 195, 196, 197, 198, 199] (by decide +kernel) (by decide +kernel)
set_option maxRecDepth 20000 in
theorem gX7_force_X3_isPin : GoodIn wsX7_force (wsV RX7 74 RX3 yX3_isPin wsX3_isPin) := goodIn_app (goodIn_of _ (by decide +kernel)) ggX7_force_X3_isPin
set_option maxRecDepth 20000 in
theorem ggX7_force_X7_isDirection : GoodIn wsX7_force wsX7_isDirection := goodIn_r _ [17] (by decide +kernel) (by decide +kernel)
set_option maxRecDepth 20000 in
theorem gX7_force_X7_isDirection : GoodIn wsX7_force (va_wsS RX7 107 yX7_isDirection wsX7_isDirection) := goodIn_app (goodIn_of _ (by decide +kernel)) ggX7_force_X7_isDirection
set_option maxRecDepth 20000 in
theorem ggX7_force_X7_need : GoodIn wsX7_force wsX7_need := goodIn_ca (goodIn_r _ [20, 21, 22] (by decide +kernel) (by decide +kernel)) (goodIn_sub (fun _ h => List.mem_cons_of_mem _ (List.mem_append_right _ h)) (by decide +kernel))
set_option maxRecDepth 20000 in
theorem gX7_force_X7_need : GoodIn wsX7_force (va_wsS RX7 140 yX7_need wsX7_need) := goodIn_app (goodIn_of _ (by decide +kernel)) ggX7_force_X7_need
set_option maxRecDepth 20000 in
theorem ggX7_force_X7_bears : GoodIn wsX7_force wsX7_bears := goodIn_r _ [26, 27, 5, 28, 29, 30, 31, 32, 33, 34, 35, 36, 37, 38, 39, 40, 41, 42, 43, 44, 45, 46, 47, 48, 49, 50, 51, 52, 53, 54, 11, 55, 56, 57, 58, 59, 60, 61, 62, 63, 16, 64, 65, 66, 67, 68, 69, 70, 71, 72, 73, 74, 75, 76, 77, 78, 79, 80, 81, 82, 83, 84, 85, 86, 87, 88, 89, 90, 91, 92, 93, 94, 95, 96, 97, 98, 99, 100, 101, 102, 103, 104, 105, 106, 107, 108, 109, 110, 111, 112, 113, 114, 115, 116, 117, 118, 119, 120, 121, 122, 123, 124, 125, 126, 127, 128, 129, 130, 131, 132, 133, 134, 135, 136, 137, 138, 139, 183, 184, 185, 186, 187, 188, 189, 207, 208, 209, 210, 211, 212, 213, 214, 215, 190, 191, 192, 193, 194, 195, 196, 197, 198, 199, 200, 201, 202, 203, 204, 205, 206] (by decide +kernel) (by decide +kernel)
set_option maxRecDepth 20000 in
theorem gX7_force_X7_bears : GoodIn wsX7_force (wsV RX7 166 RX7 yX7_bears wsX7_bears) := goodIn_app (goodIn_of _ (by decide +kernel)) ggX7_force_X7_bears
set_option maxRecDepth 20000 in
theorem ggX7_force_X3_isOn : GoodIn wsX7_force wsX3_isOn := goodIn_r _ [143, 144, 145, 146, 147, 11, 148, 149, 63, 16, 64, 190, 191, 192, 193, 194, 195, 196, 197, 198, 199] (by decide +kernel) (by decide +kernel)
set_option maxRecDepth 20000 in
theorem gX7_force_X3_isOn : GoodIn wsX7_force (wsV RX7 94 RX3 yX3_isOn wsX3_isOn) := goodIn_app (goodIn_of _ (by decide +kernel)) ggX7_force_X3_isOn
set_option maxRecDepth 20000 in
theorem ggX7_force_X3_brings : GoodIn wsX7_force wsX3_brings := goodIn_r _ [55, 56, 57, 58, 190, 191, 192, 193, 194, 195, 196, 197, 198, 199] (by decide +kernel) (by decide +kernel)
set_option maxRecDepth 20000 in
theorem gX7_force_X3_brings : GoodIn wsX7_force (wsV RX7 195 RX3 yX3_brings wsX3_brings) := goodIn_app (goodIn_of _ (by decide +kernel)) ggX7_force_X3_brings
set_option maxRecDepth 20000 in
theorem ggX7_force_X5_overOf : GoodIn wsX7_force wsX5_overOf := goodIn_r _ [154, 100, 124, 155, 156, 157, 98, 158, 101, 102, 111, 103, 105, 119, 78, 16, 79, 159, 160, 161, 162, 133, 200, 201, 202, 203, 204, 205, 206, 190, 191, 192, 193, 194, 195, 196, 197, 198, 199, 207, 208, 209, 210, 211, 212, 213, 214, 215] (by decide +kernel) (by decide +kernel)
set_option maxRecDepth 20000 in
theorem gX7_force_X5_overOf : GoodIn wsX7_force (wsV RX7 199 RX5 yX5_overOf wsX5_overOf) := goodIn_app (goodIn_of _ (by decide +kernel)) ggX7_force_X5_overOf
set_option maxRecDepth 20000 in
theorem ggX7_force_X7_told : GoodIn wsX7_force wsX7_told := goodIn_r _ [166, 167, 168, 169, 170, 171, 172, 173, 174, 175, 176, 86, 177, 178, 179, 180, 181, 182, 78, 16, 79, 183, 184, 185, 186, 187, 188, 189, 216, 217] (by decide +kernel) (by decide +kernel)
set_option maxRecDepth 20000 in
theorem gX7_force_X7_told : GoodIn wsX7_force (wsV RX7 185 RX7 yX7_told wsX7_told) := goodIn_app (goodIn_of _ (by decide +kernel)) ggX7_force_X7_told
theorem dX7_force_0 : decode cX7_force 0 = .ok (.aload_n 0, 1) := by decide +kernel
theorem dX7_force_1 : decode cX7_force 1 = .ok (.getfield 17, 3) := by decide +kernel
theorem dX7_force_4 : decode cX7_force 4 = .ok (.iload_n 1, 1) := by decide +kernel
theorem dX7_force_5 : decode cX7_force 5 = .ok (.invokevirtual 74, 3) := by decide +kernel
theorem dX7_force_8 : decode cX7_force 8 = .ok (.ifCond .eq 14, 3) := by decide +kernel
theorem dX7_force_11 : decode cX7_force 11 = .ok (.iload_n 2, 1) := by decide +kernel
theorem dX7_force_12 : decode cX7_force 12 = .ok (.invokestatic 107, 3) := by decide +kernel
theorem dX7_force_15 : decode cX7_force 15 = .ok (.ifCond .eq 7, 3) := by decide +kernel
theorem dX7_force_18 : decode cX7_force 18 = .ok (.iconst 1, 1) := by decide +kernel
theorem dX7_force_19 : decode cX7_force 19 = .ok (.goto 4, 3) := by decide +kernel
theorem dX7_force_22 : decode cX7_force 22 = .ok (.iconst 0, 1) := by decide +kernel
theorem dX7_force_23 : decode cX7_force 23 = .ok (.invokestatic 140, 3) := by decide +kernel
theorem dX7_force_26 : decode cX7_force 26 = .ok (.iconst 2, 1) := by decide +kernel
theorem dX7_force_27 : decode cX7_force 27 = .ok (.iload_n 1, 1) := by decide +kernel
theorem dX7_force_28 : decode cX7_force 28 = .ok (.imul, 1) := by decide +kernel
theorem dX7_force_29 : decode cX7_force 29 = .ok (.iload_n 2, 1) := by decide +kernel
theorem dX7_force_30 : decode cX7_force 30 = .ok (.iadd, 1) := by decide +kernel
theorem dX7_force_31 : decode cX7_force 31 = .ok (.istore 4, 2) := by decide +kernel
theorem dX7_force_33 : decode cX7_force 33 = .ok (.aload_n 0, 1) := by decide +kernel
theorem dX7_force_34 : decode cX7_force 34 = .ok (.getfield 17, 3) := by decide +kernel
theorem dX7_force_37 : decode cX7_force 37 = .ok (.getfield 110, 3) := by decide +kernel
theorem dX7_force_40 : decode cX7_force 40 = .ok (.iload 4, 2) := by decide +kernel
theorem dX7_force_42 : decode cX7_force 42 = .ok (.baload, 1) := by decide +kernel
theorem dX7_force_43 : decode cX7_force 43 = .ok (.ifCond .eq 28, 3) := by decide +kernel
theorem dX7_force_46 : decode cX7_force 46 = .ok (.aload_n 0, 1) := by decide +kernel
theorem dX7_force_47 : decode cX7_force 47 = .ok (.aload_n 0, 1) := by decide +kernel
theorem dX7_force_48 : decode cX7_force 48 = .ok (.getfield 17, 3) := by decide +kernel
theorem dX7_force_51 : decode cX7_force 51 = .ok (.getfield 97, 3) := by decide +kernel
theorem dX7_force_54 : decode cX7_force 54 = .ok (.aload_n 0, 1) := by decide +kernel
theorem dX7_force_55 : decode cX7_force 55 = .ok (.getfield 17, 3) := by decide +kernel
theorem dX7_force_58 : decode cX7_force 58 = .ok (.getfield 117, 3) := by decide +kernel
theorem dX7_force_61 : decode cX7_force 61 = .ok (.invokevirtual 166, 3) := by decide +kernel
theorem dX7_force_64 : decode cX7_force 64 = .ok (.ifCond .eq 7, 3) := by decide +kernel
theorem dX7_force_67 : decode cX7_force 67 = .ok (.iconst 1, 1) := by decide +kernel
theorem dX7_force_68 : decode cX7_force 68 = .ok (.goto 4, 3) := by decide +kernel
theorem dX7_force_71 : decode cX7_force 71 = .ok (.iconst 0, 1) := by decide +kernel
theorem dX7_force_72 : decode cX7_force 72 = .ok (.invokestatic 140, 3) := by decide +kernel
theorem dX7_force_75 : decode cX7_force 75 = .ok (.aload_n 0, 1) := by decide +kernel
theorem dX7_force_76 : decode cX7_force 76 = .ok (.getfield 17, 3) := by decide +kernel
theorem dX7_force_79 : decode cX7_force 79 = .ok (.getfield 117, 3) := by decide +kernel
theorem dX7_force_82 : decode cX7_force 82 = .ok (.iload 4, 2) := by decide +kernel
theorem dX7_force_84 : decode cX7_force 84 = .ok (.iaload, 1) := by decide +kernel
theorem dX7_force_85 : decode cX7_force 85 = .ok (.i2l, 1) := by decide +kernel
theorem dX7_force_86 : decode cX7_force 86 = .ok (.aload_n 0, 1) := by decide +kernel
theorem dX7_force_87 : decode cX7_force 87 = .ok (.getfield 30, 3) := by decide +kernel
theorem dX7_force_90 : decode cX7_force 90 = .ok (.getfield 192, 3) := by decide +kernel
theorem dX7_force_93 : decode cX7_force 93 = .ok (.lmul, 1) := by decide +kernel
theorem dX7_force_94 : decode cX7_force 94 = .ok (.lstore 5, 2) := by decide +kernel
theorem dX7_force_96 : decode cX7_force 96 = .ok (.iconst 0, 1) := by decide +kernel
theorem dX7_force_97 : decode cX7_force 97 = .ok (.istore 7, 2) := by decide +kernel
theorem dX7_force_99 : decode cX7_force 99 = .ok (.iload 7, 2) := by decide +kernel
theorem dX7_force_101 : decode cX7_force 101 = .ok (.aload_n 0, 1) := by decide +kernel
theorem dX7_force_102 : decode cX7_force 102 = .ok (.getfield 17, 3) := by decide +kernel
theorem dX7_force_105 : decode cX7_force 105 = .ok (.getfield 78, 3) := by decide +kernel
theorem dX7_force_108 : decode cX7_force 108 = .ok (.if_icmp .ge 62, 3) := by decide +kernel
theorem dX7_force_111 : decode cX7_force 111 = .ok (.aload_n 0, 1) := by decide +kernel
theorem dX7_force_112 : decode cX7_force 112 = .ok (.getfield 17, 3) := by decide +kernel
theorem dX7_force_115 : decode cX7_force 115 = .ok (.iload 7, 2) := by decide +kernel
theorem dX7_force_117 : decode cX7_force 117 = .ok (.invokevirtual 94, 3) := by decide +kernel
theorem dX7_force_120 : decode cX7_force 120 = .ok (.ifCond .eq 44, 3) := by decide +kernel
theorem dX7_force_123 : decode cX7_force 123 = .ok (.aload_n 0, 1) := by decide +kernel
theorem dX7_force_124 : decode cX7_force 124 = .ok (.getfield 17, 3) := by decide +kernel
theorem dX7_force_127 : decode cX7_force 127 = .ok (.iload 7, 2) := by decide +kernel
theorem dX7_force_129 : decode cX7_force 129 = .ok (.iload 4, 2) := by decide +kernel
theorem dX7_force_131 : decode cX7_force 131 = .ok (.invokevirtual 195, 3) := by decide +kernel
theorem dX7_force_134 : decode cX7_force 134 = .ok (.ifCond .eq 30, 3) := by decide +kernel
theorem dX7_force_137 : decode cX7_force 137 = .ok (.lload 5, 2) := by decide +kernel
theorem dX7_force_139 : decode cX7_force 139 = .ok (.aload_n 0, 1) := by decide +kernel
theorem dX7_force_140 : decode cX7_force 140 = .ok (.getfield 17, 3) := by decide +kernel
theorem dX7_force_143 : decode cX7_force 143 = .ok (.iload 7, 2) := by decide +kernel
theorem dX7_force_145 : decode cX7_force 145 = .ok (.iload 4, 2) := by decide +kernel
theorem dX7_force_147 : decode cX7_force 147 = .ok (.invokevirtual 195, 3) := by decide +kernel
theorem dX7_force_150 : decode cX7_force 150 = .ok (.i2l, 1) := by decide +kernel
theorem dX7_force_151 : decode cX7_force 151 = .ok (.aload_n 0, 1) := by decide +kernel
theorem dX7_force_152 : decode cX7_force 152 = .ok (.getfield 30, 3) := by decide +kernel
theorem dX7_force_155 : decode cX7_force 155 = .ok (.iload 7, 2) := by decide +kernel
theorem dX7_force_157 : decode cX7_force 157 = .ok (.invokevirtual 199, 3) := by decide +kernel
theorem dX7_force_160 : decode cX7_force 160 = .ok (.lmul, 1) := by decide +kernel
theorem dX7_force_161 : decode cX7_force 161 = .ok (.ladd, 1) := by decide +kernel
theorem dX7_force_162 : decode cX7_force 162 = .ok (.lstore 5, 2) := by decide +kernel
theorem dX7_force_164 : decode cX7_force 164 = .ok (.iinc 7 1, 3) := by decide +kernel
theorem dX7_force_167 : decode cX7_force 167 = .ok (.goto (-68), 3) := by decide +kernel
theorem dX7_force_170 : decode cX7_force 170 = .ok (.aload_n 0, 1) := by decide +kernel
theorem dX7_force_171 : decode cX7_force 171 = .ok (.lload 5, 2) := by decide +kernel
theorem dX7_force_173 : decode cX7_force 173 = .ok (.lneg, 1) := by decide +kernel
theorem dX7_force_174 : decode cX7_force 174 = .ok (.aload_n 0, 1) := by decide +kernel
theorem dX7_force_175 : decode cX7_force 175 = .ok (.getfield 30, 3) := by decide +kernel
theorem dX7_force_178 : decode cX7_force 178 = .ok (.getfield 192, 3) := by decide +kernel
theorem dX7_force_181 : decode cX7_force 181 = .ok (.iload_n 3, 1) := by decide +kernel
theorem dX7_force_182 : decode cX7_force 182 = .ok (.invokevirtual 185, 3) := by decide +kernel
theorem dX7_force_185 : decode cX7_force 185 = .ok (.lreturn, 1) := by decide +kernel
set_option maxRecDepth 20000 in
theorem ggX7_influence_X3_isOn : GoodIn wsX7_influence wsX3_isOn := goodIn_r _ [8, 9, 10, 11, 12, 7, 13, 14, 15, 16, 17, 201, 202, 203, 204, 205, 206, 207, 208, 209, 210] (by decide +kernel) (by decide +kernel)
set_option maxRecDepth 20000 in
theorem gX7_influence_X3_isOn : GoodIn wsX7_influence (wsV RX7 94 RX3 yX3_isOn wsX3_isOn) := goodIn_app (goodIn_of _ (by decide +kernel)) ggX7_influence_X3_isOn
set_option maxRecDepth 20000 in
theorem ggX7_influence_X3_isPin : GoodIn wsX7_influence wsX3_isPin := goodIn_r _ [21, 22, 201, 202, 203, 204, 205, 206, 207, 208, 209, 210] (by decide +kernel) (by decide +kernel)
set_option maxRecDepth 20000 in
theorem gX7_influence_X3_isPin : GoodIn wsX7_influence (wsV RX7 74 RX3 yX3_isPin wsX3_isPin) := goodIn_app (goodIn_of _ (by decide +kernel)) ggX7_influence_X3_isPin
set_option maxRecDepth 20000 in
theorem ggX7_influence_X7_isDirection : GoodIn wsX7_influence wsX7_isDirection := goodIn_r _ [25] (by decide +kernel) (by decide +kernel)
set_option maxRecDepth 20000 in
theorem gX7_influence_X7_isDirection : GoodIn wsX7_influence (va_wsS RX7 107 yX7_isDirection wsX7_isDirection) := goodIn_app (goodIn_of _ (by decide +kernel)) ggX7_influence_X7_isDirection
set_option maxRecDepth 20000 in
theorem ggX7_influence_X7_need : GoodIn wsX7_influence wsX7_need := goodIn_ca (goodIn_r _ [28, 29, 30] (by decide +kernel) (by decide +kernel)) (goodIn_sub (fun _ h => List.mem_cons_of_mem _ (List.mem_append_right _ h)) (by decide +kernel))
set_option maxRecDepth 20000 in
theorem gX7_influence_X7_need : GoodIn wsX7_influence (va_wsS RX7 140 yX7_need wsX7_need) := goodIn_app (goodIn_of _ (by decide +kernel)) ggX7_influence_X7_need
set_option maxRecDepth 20000 in
theorem ggX7_influence_X6_oneLoad : GoodIn wsX7_influence wsX6_oneLoad := goodIn_r _ [35, 36, 37, 38, 39, 34, 40, 211, 212, 213, 214, 215] (by decide +kernel) (by decide +kernel)
set_option maxRecDepth 20000 in
theorem gX7_influence_X6_oneLoad : GoodIn wsX7_influence (wsV RX7 203 RX6 yX6_oneLoad wsX6_oneLoad) := goodIn_app (goodIn_of _ (by decide +kernel)) ggX7_influence_X6_oneLoad
set_option maxRecDepth 20000 in
theorem ggX7_influence_X7_bears : GoodIn wsX7_influence wsX7_bears := goodIn_r _ [44, 45, 46, 47, 48, 49, 50, 51, 52, 53, 54, 55, 56, 57, 58, 59, 60, 61, 62, 63, 64, 65, 66, 67, 68, 69, 70, 71, 72, 73, 7, 74, 75, 76, 77, 78, 79, 80, 81, 15, 16, 17, 82, 83, 84, 85, 86, 87, 88, 89, 90, 91, 92, 93, 94, 95, 96, 97, 98, 99, 100, 101, 102, 103, 104, 105, 106, 107, 108, 109, 110, 111, 112, 113, 114, 115, 116, 117, 118, 119, 120, 121, 122, 123, 124, 125, 126, 127, 128, 129, 130, 131, 132, 133, 134, 135, 136, 137, 138, 139, 140, 141, 142, 143, 144, 145, 146, 147, 148, 149, 150, 151, 152, 153, 154, 155, 156, 194, 195, 196, 197, 198, 199, 200, 216, 217, 218, 219, 220, 221, 222, 223, 224, 201, 202, 203, 204, 205, 206, 207, 208, 209, 210, 225, 226, 227, 228, 229, 230, 231] (by decide +kernel) (by decide +kernel)
set_option maxRecDepth 20000 in
theorem gX7_influence_X7_bears : GoodIn wsX7_influence (wsV RX7 166 RX7 yX7_bears wsX7_bears) := goodIn_app (goodIn_of _ (by decide +kernel)) ggX7_influence_X7_bears
set_option maxRecDepth 20000 in
theorem ggX7_influence_X7_toldPull : GoodIn wsX7_influence wsX7_toldPull := goodIn_r _ [160, 46, 161, 162, 163, 164, 115, 165, 117, 141, 166, 167, 168, 169, 118, 119, 128, 120, 122, 136, 95, 16, 96, 170, 171, 172, 173, 150, 174, 175, 176, 177, 178, 179, 180, 181, 182, 183, 184, 185, 186, 187, 103, 188, 189, 190, 191, 192, 193, 194, 195, 196, 197, 198, 199, 200, 225, 226, 227, 228, 229, 230, 231, 201, 202, 203, 204, 205, 206, 207, 208, 209, 210, 216, 217, 218, 219, 220, 221, 222, 223, 224, 232, 233] (by decide +kernel) (by decide +kernel)
set_option maxRecDepth 20000 in
theorem gX7_influence_X7_toldPull : GoodIn wsX7_influence (wsV RX7 170 RX7 yX7_toldPull wsX7_toldPull) := goodIn_app (goodIn_of _ (by decide +kernel)) ggX7_influence_X7_toldPull
theorem dX7_influence_0 : decode cX7_influence 0 = .ok (.aload_n 0, 1) := by decide +kernel
theorem dX7_influence_1 : decode cX7_influence 1 = .ok (.getfield 17, 3) := by decide +kernel
theorem dX7_influence_4 : decode cX7_influence 4 = .ok (.iload_n 1, 1) := by decide +kernel
theorem dX7_influence_5 : decode cX7_influence 5 = .ok (.invokevirtual 94, 3) := by decide +kernel
theorem dX7_influence_8 : decode cX7_influence 8 = .ok (.ifCond .eq 25, 3) := by decide +kernel
theorem dX7_influence_11 : decode cX7_influence 11 = .ok (.aload_n 0, 1) := by decide +kernel
theorem dX7_influence_12 : decode cX7_influence 12 = .ok (.getfield 17, 3) := by decide +kernel
theorem dX7_influence_15 : decode cX7_influence 15 = .ok (.iload_n 2, 1) := by decide +kernel
theorem dX7_influence_16 : decode cX7_influence 16 = .ok (.invokevirtual 74, 3) := by decide +kernel
theorem dX7_influence_19 : decode cX7_influence 19 = .ok (.ifCond .eq 14, 3) := by decide +kernel
theorem dX7_influence_22 : decode cX7_influence 22 = .ok (.iload_n 3, 1) := by decide +kernel
theorem dX7_influence_23 : decode cX7_influence 23 = .ok (.invokestatic 107, 3) := by decide +kernel
theorem dX7_influence_26 : decode cX7_influence 26 = .ok (.ifCond .eq 7, 3) := by decide +kernel
theorem dX7_influence_29 : decode cX7_influence 29 = .ok (.iconst 1, 1) := by decide +kernel
theorem dX7_influence_30 : decode cX7_influence 30 = .ok (.goto 4, 3) := by decide +kernel
theorem dX7_influence_33 : decode cX7_influence 33 = .ok (.iconst 0, 1) := by decide +kernel
theorem dX7_influence_34 : decode cX7_influence 34 = .ok (.invokestatic 140, 3) := by decide +kernel
theorem dX7_influence_37 : decode cX7_influence 37 = .ok (.aload_n 0, 1) := by decide +kernel
theorem dX7_influence_38 : decode cX7_influence 38 = .ok (.aload_n 0, 1) := by decide +kernel
theorem dX7_influence_39 : decode cX7_influence 39 = .ok (.getfield 17, 3) := by decide +kernel
theorem dX7_influence_42 : decode cX7_influence 42 = .ok (.getfield 97, 3) := by decide +kernel
theorem dX7_influence_45 : decode cX7_influence 45 = .ok (.aload_n 0, 1) := by decide +kernel
theorem dX7_influence_46 : decode cX7_influence 46 = .ok (.getfield 51, 3) := by decide +kernel
theorem dX7_influence_49 : decode cX7_influence 49 = .ok (.iconst 2, 1) := by decide +kernel
theorem dX7_influence_50 : decode cX7_influence 50 = .ok (.iload_n 2, 1) := by decide +kernel
theorem dX7_influence_51 : decode cX7_influence 51 = .ok (.imul, 1) := by decide +kernel
theorem dX7_influence_52 : decode cX7_influence 52 = .ok (.iload_n 3, 1) := by decide +kernel
theorem dX7_influence_53 : decode cX7_influence 53 = .ok (.iadd, 1) := by decide +kernel
theorem dX7_influence_54 : decode cX7_influence 54 = .ok (.invokevirtual 203, 3) := by decide +kernel
theorem dX7_influence_57 : decode cX7_influence 57 = .ok (.invokevirtual 166, 3) := by decide +kernel
theorem dX7_influence_60 : decode cX7_influence 60 = .ok (.invokestatic 140, 3) := by decide +kernel
theorem dX7_influence_63 : decode cX7_influence 63 = .ok (.aload_n 0, 1) := by decide +kernel
theorem dX7_influence_64 : decode cX7_influence 64 = .ok (.iload_n 1, 1) := by decide +kernel
theorem dX7_influence_65 : decode cX7_influence 65 = .ok (.iload 4, 2) := by decide +kernel
theorem dX7_influence_67 : decode cX7_influence 67 = .ok (.invokevirtual 170, 3) := by decide +kernel
theorem dX7_influence_70 : decode cX7_influence 70 = .ok (.lreturn, 1) := by decide +kernel
set_option maxRecDepth 20000 in
theorem ggX7_cut_X1_divides : GoodIn wsX7_cut wsX1_divides := goodIn_r _ [7, 8, 9, 10, 11, 12, 13, 14, 15, 16, 17, 6, 18, 19, 20, 21, 22, 23, 24, 25, 26, 27, 28, 29, 30, 31, 32, 33, 34, 35, 36, 37, 38, 39, 40, 41, 42, 43, 44, 45, 46, 47, 48, 49, 50, 51, 52, 53, 54, 55, 56, 57, 58, 59, 60, 61, 62, 63, 64, 108, 109, 110, 111, 112, 113, 114, 115, 116, 117, 118, 119, 120, 121, 122] (by decide +kernel) (by decide +kernel)
set_option maxRecDepth 20000 in
theorem gX7_cut_X1_divides : GoodIn wsX7_cut (wsV RX7 207 RX1 yX1_divides wsX1_divides) := goodIn_app (goodIn_of _ (by decide +kernel)) ggX7_cut_X1_divides
set_option maxRecDepth 20000 in
theorem ggX7_cut_X7_need : GoodIn wsX7_cut wsX7_need := goodIn_ca (goodIn_r _ [67, 68, 69] (by decide +kernel) (by decide +kernel)) (goodIn_sub (fun _ h => List.mem_cons_of_mem _ (List.mem_append_right _ h)) (by decide +kernel))
set_option maxRecDepth 20000 in
theorem gX7_cut_X7_need : GoodIn wsX7_cut (va_wsS RX7 140 yX7_need wsX7_need) := goodIn_app (goodIn_of _ (by decide +kernel)) ggX7_cut_X7_need
set_option maxRecDepth 20000 in
theorem ggX7_cut_X1_indexOf : GoodIn wsX7_cut wsX1_indexOf := goodIn_r _ [73, 12, 108, 109, 110, 111, 112] (by decide +kernel) (by decide +kernel)
set_option maxRecDepth 20000 in
theorem gX7_cut_X1_indexOf : GoodIn wsX7_cut (wsV RX7 210 RX1 yX1_indexOf wsX1_indexOf) := goodIn_app (goodIn_of _ (by decide +kernel)) ggX7_cut_X1_indexOf
set_option maxRecDepth 20000 in
theorem ggX7_cut_X1_overOf : GoodIn wsX7_cut wsX1_overOf := goodIn_r _ [77, 61, 62, 63, 6, 64, 43, 108, 109, 110, 111, 112] (by decide +kernel) (by decide +kernel)
set_option maxRecDepth 20000 in
theorem gX7_cut_X1_overOf : GoodIn wsX7_cut (wsV RX7 213 RX1 yX1_overOf wsX1_overOf) := goodIn_app (goodIn_of _ (by decide +kernel)) ggX7_cut_X1_overOf
set_option maxRecDepth 20000 in
theorem ggX7_cut_X7_told : GoodIn wsX7_cut wsX7_told := goodIn_r _ [81, 82, 83, 84, 85, 86, 87, 88, 89, 90, 91, 92, 93, 94, 95, 96, 97, 98, 99, 21, 100, 101, 102, 103, 104, 105, 106, 107, 123, 124] (by decide +kernel) (by decide +kernel)
set_option maxRecDepth 20000 in
theorem gX7_cut_X7_told : GoodIn wsX7_cut (wsV RX7 185 RX7 yX7_told wsX7_told) := goodIn_app (goodIn_of _ (by decide +kernel)) ggX7_cut_X7_told
theorem dX7_cut_0 : decode cX7_cut 0 = .ok (.aload_n 0, 1) := by decide +kernel
theorem dX7_cut_1 : decode cX7_cut 1 = .ok (.getfield 44, 3) := by decide +kernel
theorem dX7_cut_4 : decode cX7_cut 4 = .ok (.iload_n 1, 1) := by decide +kernel
theorem dX7_cut_5 : decode cX7_cut 5 = .ok (.invokevirtual 207, 3) := by decide +kernel
theorem dX7_cut_8 : decode cX7_cut 8 = .ok (.invokestatic 140, 3) := by decide +kernel
theorem dX7_cut_11 : decode cX7_cut 11 = .ok (.aload_n 0, 1) := by decide +kernel
theorem dX7_cut_12 : decode cX7_cut 12 = .ok (.getfield 44, 3) := by decide +kernel
theorem dX7_cut_15 : decode cX7_cut 15 = .ok (.iload_n 2, 1) := by decide +kernel
theorem dX7_cut_16 : decode cX7_cut 16 = .ok (.invokevirtual 210, 3) := by decide +kernel
theorem dX7_cut_19 : decode cX7_cut 19 = .ok (.istore 4, 2) := by decide +kernel
theorem dX7_cut_21 : decode cX7_cut 21 = .ok (.iload 4, 2) := by decide +kernel
theorem dX7_cut_23 : decode cX7_cut 23 = .ok (.iconst (-1), 1) := by decide +kernel
theorem dX7_cut_24 : decode cX7_cut 24 = .ok (.if_icmp .eq 7, 3) := by decide +kernel
theorem dX7_cut_27 : decode cX7_cut 27 = .ok (.iconst 1, 1) := by decide +kernel
theorem dX7_cut_28 : decode cX7_cut 28 = .ok (.goto 4, 3) := by decide +kernel
theorem dX7_cut_31 : decode cX7_cut 31 = .ok (.iconst 0, 1) := by decide +kernel
theorem dX7_cut_32 : decode cX7_cut 32 = .ok (.invokestatic 140, 3) := by decide +kernel
theorem dX7_cut_35 : decode cX7_cut 35 = .ok (.aload_n 0, 1) := by decide +kernel
theorem dX7_cut_36 : decode cX7_cut 36 = .ok (.aload_n 0, 1) := by decide +kernel
theorem dX7_cut_37 : decode cX7_cut 37 = .ok (.getfield 44, 3) := by decide +kernel
theorem dX7_cut_40 : decode cX7_cut 40 = .ok (.iload 4, 2) := by decide +kernel
theorem dX7_cut_42 : decode cX7_cut 42 = .ok (.invokevirtual 213, 3) := by decide +kernel
theorem dX7_cut_45 : decode cX7_cut 45 = .ok (.aload_n 0, 1) := by decide +kernel
theorem dX7_cut_46 : decode cX7_cut 46 = .ok (.getfield 44, 3) := by decide +kernel
theorem dX7_cut_49 : decode cX7_cut 49 = .ok (.getfield 214, 3) := by decide +kernel
theorem dX7_cut_52 : decode cX7_cut 52 = .ok (.iload_n 3, 1) := by decide +kernel
theorem dX7_cut_53 : decode cX7_cut 53 = .ok (.invokevirtual 185, 3) := by decide +kernel
theorem dX7_cut_56 : decode cX7_cut 56 = .ok (.lreturn, 1) := by decide +kernel
set_option maxRecDepth 20000 in
theorem ggX7_joint_X4_follow : GoodIn wsX7_joint wsX4_follow := goodIn_r _ [8, 9, 10, 11, 12, 13, 7, 14, 15, 16, 17, 18, 19, 20, 21, 22, 23, 24, 25, 26, 27, 28, 29, 30, 31, 32, 33, 34, 35, 36, 37, 38, 39, 40, 41, 42, 43, 44, 45, 46, 47, 48, 49, 50, 51, 52, 53, 54, 55, 63, 64, 65, 66, 67, 68, 69, 70, 71, 72, 73, 74, 75, 76] (by decide +kernel) (by decide +kernel)
set_option maxRecDepth 20000 in
theorem gX7_joint_X4_follow : GoodIn wsX7_joint (wsV RX7 131 RX4 yX4_follow wsX4_follow) := goodIn_app (goodIn_of _ (by decide +kernel)) ggX7_joint_X4_follow
theorem dX7_joint_0 : decode cX7_joint 0 = .ok (.aload_n 0, 1) := by decide +kernel
theorem dX7_joint_1 : decode cX7_joint 1 = .ok (.getfield 37, 3) := by decide +kernel
theorem dX7_joint_4 : decode cX7_joint 4 = .ok (.invokevirtual 131, 3) := by decide +kernel
theorem dX7_joint_7 : decode cX7_joint 7 = .ok (.iload_n 1, 1) := by decide +kernel
theorem dX7_joint_8 : decode cX7_joint 8 = .ok (.ifCond .lt 26, 3) := by decide +kernel
theorem dX7_joint_11 : decode cX7_joint 11 = .ok (.iload_n 1, 1) := by decide +kernel
theorem dX7_joint_12 : decode cX7_joint 12 = .ok (.aload_n 0, 1) := by decide +kernel
theorem dX7_joint_13 : decode cX7_joint 13 = .ok (.getfield 37, 3) := by decide +kernel
theorem dX7_joint_16 : decode cX7_joint 16 = .ok (.getfield 217, 3) := by decide +kernel
theorem dX7_joint_19 : decode cX7_joint 19 = .ok (.if_icmp .ge 15, 3) := by decide +kernel
theorem dX7_joint_22 : decode cX7_joint 22 = .ok (.aload_n 0, 1) := by decide +kernel
theorem dX7_joint_23 : decode cX7_joint 23 = .ok (.getfield 37, 3) := by decide +kernel
theorem dX7_joint_26 : decode cX7_joint 26 = .ok (.getfield 220, 3) := by decide +kernel
theorem dX7_joint_29 : decode cX7_joint 29 = .ok (.iload_n 1, 1) := by decide +kernel
theorem dX7_joint_30 : decode cX7_joint 30 = .ok (.iaload, 1) := by decide +kernel
theorem dX7_joint_31 : decode cX7_joint 31 = .ok (.goto 4, 3) := by decide +kernel
theorem dX7_joint_34 : decode cX7_joint 34 = .ok (.iconst (-1), 1) := by decide +kernel
theorem dX7_joint_35 : decode cX7_joint 35 = .ok (.ireturn, 1) := by decide +kernel
set_option maxRecDepth 20000 in
theorem ggX7_painted_X7_bears : GoodIn wsX7_painted wsX7_bears := goodIn_r _ [9, 10, 11, 12, 13, 14, 15, 16, 17, 18, 19, 20, 21, 22, 23, 24, 25, 26, 27, 28, 29, 30, 31, 32, 33, 34, 35, 36, 37, 38, 39, 40, 41, 42, 43, 44, 45, 46, 47, 48, 8, 49, 50, 51, 52, 53, 54, 55, 56, 57, 58, 59, 60, 61, 62, 63, 64, 65, 66, 67, 68, 69, 70, 71, 72, 73, 74, 75, 76, 77, 78, 79, 80, 81, 82, 83, 84, 85, 86, 87, 88, 89, 90, 91, 92, 93, 94, 95, 96, 97, 98, 99, 100, 101, 102, 103, 104, 105, 106, 107, 108, 109, 110, 111, 112, 113, 114, 115, 116, 117, 118, 119, 120, 121, 122, 123, 124, 170, 171, 172, 173, 174, 175, 176, 187, 188, 189, 190, 191, 192, 193, 194, 195, 177, 178, 179, 180, 181, 182, 183, 184, 185, 186, 196, 197, 198, 199, 200, 201, 202] (by decide +kernel) (by decide +kernel)
set_option maxRecDepth 20000 in
theorem gX7_painted_X7_bears : GoodIn wsX7_painted (wsV RX7 166 RX7 yX7_bears wsX7_bears) := goodIn_app (goodIn_of _ (by decide +kernel)) ggX7_painted_X7_bears
set_option maxRecDepth 20000 in
theorem ggX7_painted_X3_isOn : GoodIn wsX7_painted wsX3_isOn := goodIn_r _ [128, 129, 130, 131, 132, 39, 133, 134, 48, 8, 49, 177, 178, 179, 180, 181, 182, 183, 184, 185, 186] (by decide +kernel) (by decide +kernel)
set_option maxRecDepth 20000 in
theorem gX7_painted_X3_isOn : GoodIn wsX7_painted (wsV RX7 94 RX3 yX3_isOn wsX3_isOn) := goodIn_app (goodIn_of _ (by decide +kernel)) ggX7_painted_X3_isOn
set_option maxRecDepth 20000 in
theorem ggX7_painted_X7_isPainted : GoodIn wsX7_painted wsX7_isPainted := goodIn_r _ [138, 139, 11, 140, 141, 142, 143, 71, 144, 1, 145, 146, 147, 148, 149, 83, 150, 85, 109, 151, 152, 153, 154, 86, 87, 96, 88, 90, 104, 63, 8, 64, 155, 156, 157, 158, 118, 159, 160, 161, 162, 163, 164, 165, 166, 167, 168, 169, 170, 171, 172, 173, 174, 175, 176, 196, 197, 198, 199, 200, 201, 202, 203, 204, 177, 178, 179, 180, 181, 182, 183, 184, 185, 186, 187, 188, 189, 190, 191, 192, 193, 194, 195] (by decide +kernel) (by decide +kernel)
set_option maxRecDepth 20000 in
theorem gX7_painted_X7_isPainted : GoodIn wsX7_painted (wsV RX7 223 RX7 yX7_isPainted wsX7_isPainted) := goodIn_app (goodIn_of _ (by decide +kernel)) ggX7_painted_X7_isPainted
theorem dX7_painted_0 : decode cX7_painted 0 = .ok (.iload_n 1, 1) := by decide +kernel
theorem dX7_painted_1 : decode cX7_painted 1 = .ok (.iconst (-1), 1) := by decide +kernel
theorem dX7_painted_2 : decode cX7_painted 2 = .ok (.if_icmp .lt 29, 3) := by decide +kernel
theorem dX7_painted_5 : decode cX7_painted 5 = .ok (.iload_n 1, 1) := by decide +kernel
theorem dX7_painted_6 : decode cX7_painted 6 = .ok (.iconst 2, 1) := by decide +kernel
theorem dX7_painted_7 : decode cX7_painted 7 = .ok (.if_icmp .gt 24, 3) := by decide +kernel
theorem dX7_painted_10 : decode cX7_painted 10 = .ok (.aload_n 0, 1) := by decide +kernel
theorem dX7_painted_11 : decode cX7_painted 11 = .ok (.aload_n 0, 1) := by decide +kernel
theorem dX7_painted_12 : decode cX7_painted 12 = .ok (.getfield 17, 3) := by decide +kernel
theorem dX7_painted_15 : decode cX7_painted 15 = .ok (.getfield 97, 3) := by decide +kernel
theorem dX7_painted_18 : decode cX7_painted 18 = .ok (.aload_n 0, 1) := by decide +kernel
theorem dX7_painted_19 : decode cX7_painted 19 = .ok (.getfield 17, 3) := by decide +kernel
theorem dX7_painted_22 : decode cX7_painted 22 = .ok (.getfield 117, 3) := by decide +kernel
theorem dX7_painted_25 : decode cX7_painted 25 = .ok (.invokevirtual 166, 3) := by decide +kernel
theorem dX7_painted_28 : decode cX7_painted 28 = .ok (.ifCond .ne 5, 3) := by decide +kernel
theorem dX7_painted_31 : decode cX7_painted 31 = .ok (.iconst (-1), 1) := by decide +kernel
theorem dX7_painted_32 : decode cX7_painted 32 = .ok (.ireturn, 1) := by decide +kernel
theorem dX7_painted_33 : decode cX7_painted 33 = .ok (.iconst 0, 1) := by decide +kernel
theorem dX7_painted_34 : decode cX7_painted 34 = .ok (.istore_n 2, 1) := by decide +kernel
theorem dX7_painted_35 : decode cX7_painted 35 = .ok (.iconst 0, 1) := by decide +kernel
theorem dX7_painted_36 : decode cX7_painted 36 = .ok (.istore_n 3, 1) := by decide +kernel
theorem dX7_painted_37 : decode cX7_painted 37 = .ok (.iload_n 3, 1) := by decide +kernel
theorem dX7_painted_38 : decode cX7_painted 38 = .ok (.aload_n 0, 1) := by decide +kernel
theorem dX7_painted_39 : decode cX7_painted 39 = .ok (.getfield 17, 3) := by decide +kernel
theorem dX7_painted_42 : decode cX7_painted 42 = .ok (.getfield 78, 3) := by decide +kernel
theorem dX7_painted_45 : decode cX7_painted 45 = .ok (.if_icmp .ge 35, 3) := by decide +kernel
theorem dX7_painted_48 : decode cX7_painted 48 = .ok (.aload_n 0, 1) := by decide +kernel
theorem dX7_painted_49 : decode cX7_painted 49 = .ok (.getfield 17, 3) := by decide +kernel
theorem dX7_painted_52 : decode cX7_painted 52 = .ok (.iload_n 3, 1) := by decide +kernel
theorem dX7_painted_53 : decode cX7_painted 53 = .ok (.invokevirtual 94, 3) := by decide +kernel
theorem dX7_painted_56 : decode cX7_painted 56 = .ok (.ifCond .eq 18, 3) := by decide +kernel
theorem dX7_painted_59 : decode cX7_painted 59 = .ok (.aload_n 0, 1) := by decide +kernel
theorem dX7_painted_60 : decode cX7_painted 60 = .ok (.iload_n 3, 1) := by decide +kernel
theorem dX7_painted_61 : decode cX7_painted 61 = .ok (.iload_n 1, 1) := by decide +kernel
theorem dX7_painted_62 : decode cX7_painted 62 = .ok (.invokevirtual 223, 3) := by decide +kernel
theorem dX7_painted_65 : decode cX7_painted 65 = .ok (.ifCond .eq 9, 3) := by decide +kernel
theorem dX7_painted_68 : decode cX7_painted 68 = .ok (.iload_n 2, 1) := by decide +kernel
theorem dX7_painted_69 : decode cX7_painted 69 = .ok (.iconst 1, 1) := by decide +kernel
theorem dX7_painted_70 : decode cX7_painted 70 = .ok (.iload_n 3, 1) := by decide +kernel
theorem dX7_painted_71 : decode cX7_painted 71 = .ok (.ishl, 1) := by decide +kernel
theorem dX7_painted_72 : decode cX7_painted 72 = .ok (.ior, 1) := by decide +kernel
theorem dX7_painted_73 : decode cX7_painted 73 = .ok (.istore_n 2, 1) := by decide +kernel
theorem dX7_painted_74 : decode cX7_painted 74 = .ok (.iinc 3 1, 3) := by decide +kernel
theorem dX7_painted_77 : decode cX7_painted 77 = .ok (.goto (-40), 3) := by decide +kernel
theorem dX7_painted_80 : decode cX7_painted 80 = .ok (.iload_n 2, 1) := by decide +kernel
theorem dX7_painted_81 : decode cX7_painted 81 = .ok (.ireturn, 1) := by decide +kernel
set_option maxRecDepth 20000 in
theorem ggX7_times_X7_bears : GoodIn wsX7_times wsX7_bears := goodIn_r _ [14, 15, 16, 17, 18, 19, 20, 21, 22, 23, 24, 25, 26, 27, 28, 29, 30, 31, 32, 33, 34, 35, 36, 37, 38, 39, 40, 41, 42, 43, 44, 45, 46, 47, 48, 49, 50, 51, 52, 53, 13, 54, 55, 56, 57, 58, 59, 60, 61, 62, 63, 64, 65, 66, 67, 68, 69, 70, 71, 72, 73, 74, 75, 8, 76, 77, 78, 79, 80, 81, 82, 83, 84, 85, 86, 87, 88, 89, 90, 91, 92, 93, 94, 95, 96, 97, 98, 99, 100, 101, 102, 103, 104, 105, 106, 107, 108, 109, 110, 111, 112, 113, 114, 115, 116, 117, 118, 119, 120, 121, 122, 123, 124, 125, 126, 127, 128, 175, 176, 177, 178, 179, 180, 181, 192, 193, 194, 195, 196, 197, 198, 199, 200, 182, 183, 184, 185, 186, 187, 188, 189, 190, 191, 201, 202, 203, 204, 205, 206, 207] (by decide +kernel) (by decide +kernel)
set_option maxRecDepth 20000 in
theorem gX7_times_X7_bears : GoodIn wsX7_times (wsV RX7 166 RX7 yX7_bears wsX7_bears) := goodIn_app (goodIn_of _ (by decide +kernel)) ggX7_times_X7_bears
set_option maxRecDepth 20000 in
theorem ggX7_times_X3_isOn : GoodIn wsX7_times wsX3_isOn := goodIn_r _ [132, 133, 134, 135, 136, 44, 137, 138, 53, 13, 54, 182, 183, 184, 185, 186, 187, 188, 189, 190, 191] (by decide +kernel) (by decide +kernel)
set_option maxRecDepth 20000 in
theorem gX7_times_X3_isOn : GoodIn wsX7_times (wsV RX7 94 RX3 yX3_isOn wsX3_isOn) := goodIn_app (goodIn_of _ (by decide +kernel)) ggX7_times_X3_isOn
set_option maxRecDepth 20000 in
theorem ggX7_times_X7_timesOf : GoodIn wsX7_times wsX7_timesOf := goodIn_r _ [142, 143, 16, 144, 145, 146, 147, 8, 148, 149, 4, 1, 150, 151, 152, 153, 87, 154, 89, 113, 155, 156, 157, 158, 90, 91, 100, 92, 94, 108, 68, 13, 69, 159, 160, 161, 162, 122, 163, 164, 165, 166, 167, 168, 169, 170, 171, 172, 173, 174, 175, 176, 177, 178, 179, 180, 181, 201, 202, 203, 204, 205, 206, 207, 208, 209, 182, 183, 184, 185, 186, 187, 188, 189, 190, 191, 192, 193, 194, 195, 196, 197, 198, 199, 200] (by decide +kernel) (by decide +kernel)
set_option maxRecDepth 20000 in
theorem gX7_times_X7_timesOf : GoodIn wsX7_times (wsV RX7 228 RX7 yX7_timesOf wsX7_timesOf) := goodIn_app (goodIn_of _ (by decide +kernel)) ggX7_times_X7_timesOf
theorem dX7_times_0 : decode cX7_times 0 = .ok (.aload_n 0, 1) := by decide +kernel
theorem dX7_times_1 : decode cX7_times 1 = .ok (.aload_n 0, 1) := by decide +kernel
theorem dX7_times_2 : decode cX7_times 2 = .ok (.getfield 17, 3) := by decide +kernel
theorem dX7_times_5 : decode cX7_times 5 = .ok (.getfield 97, 3) := by decide +kernel
theorem dX7_times_8 : decode cX7_times 8 = .ok (.aload_n 0, 1) := by decide +kernel
theorem dX7_times_9 : decode cX7_times 9 = .ok (.getfield 17, 3) := by decide +kernel
theorem dX7_times_12 : decode cX7_times 12 = .ok (.getfield 117, 3) := by decide +kernel
theorem dX7_times_15 : decode cX7_times 15 = .ok (.invokevirtual 166, 3) := by decide +kernel
theorem dX7_times_18 : decode cX7_times 18 = .ok (.ifCond .ne 5, 3) := by decide +kernel
theorem dX7_times_21 : decode cX7_times 21 = .ok (.iconst (-1), 1) := by decide +kernel
theorem dX7_times_22 : decode cX7_times 22 = .ok (.ireturn, 1) := by decide +kernel
theorem dX7_times_23 : decode cX7_times 23 = .ok (.ldc2_w 226, 3) := by decide +kernel
theorem dX7_times_26 : decode cX7_times 26 = .ok (.lstore_n 1, 1) := by decide +kernel
theorem dX7_times_27 : decode cX7_times 27 = .ok (.iconst 0, 1) := by decide +kernel
theorem dX7_times_28 : decode cX7_times 28 = .ok (.istore_n 3, 1) := by decide +kernel
theorem dX7_times_29 : decode cX7_times 29 = .ok (.iload_n 3, 1) := by decide +kernel
theorem dX7_times_30 : decode cX7_times 30 = .ok (.aload_n 0, 1) := by decide +kernel
theorem dX7_times_31 : decode cX7_times 31 = .ok (.getfield 17, 3) := by decide +kernel
theorem dX7_times_34 : decode cX7_times 34 = .ok (.getfield 78, 3) := by decide +kernel
theorem dX7_times_37 : decode cX7_times 37 = .ok (.if_icmp .ge 30, 3) := by decide +kernel
theorem dX7_times_40 : decode cX7_times 40 = .ok (.aload_n 0, 1) := by decide +kernel
theorem dX7_times_41 : decode cX7_times 41 = .ok (.getfield 17, 3) := by decide +kernel
theorem dX7_times_44 : decode cX7_times 44 = .ok (.iload_n 3, 1) := by decide +kernel
theorem dX7_times_45 : decode cX7_times 45 = .ok (.invokevirtual 94, 3) := by decide +kernel
theorem dX7_times_48 : decode cX7_times 48 = .ok (.ifCond .eq 13, 3) := by decide +kernel
theorem dX7_times_51 : decode cX7_times 51 = .ok (.lload_n 1, 1) := by decide +kernel
theorem dX7_times_52 : decode cX7_times 52 = .ok (.aload_n 0, 1) := by decide +kernel
theorem dX7_times_53 : decode cX7_times 53 = .ok (.iload_n 3, 1) := by decide +kernel
theorem dX7_times_54 : decode cX7_times 54 = .ok (.invokevirtual 228, 3) := by decide +kernel
theorem dX7_times_57 : decode cX7_times 57 = .ok (.invokestatic 231, 3) := by decide +kernel
theorem dX7_times_60 : decode cX7_times 60 = .ok (.lstore_n 1, 1) := by decide +kernel
theorem dX7_times_61 : decode cX7_times 61 = .ok (.iinc 3 1, 3) := by decide +kernel
theorem dX7_times_64 : decode cX7_times 64 = .ok (.goto (-35), 3) := by decide +kernel
theorem dX7_times_67 : decode cX7_times 67 = .ok (.lload_n 1, 1) := by decide +kernel
theorem dX7_times_68 : decode cX7_times 68 = .ok (.l2i, 1) := by decide +kernel
theorem dX7_times_69 : decode cX7_times 69 = .ok (.ireturn, 1) := by decide +kernel
set_option maxRecDepth 20000 in
theorem ggX7_riding_X3_isOn : GoodIn wsX7_riding wsX3_isOn := goodIn_r _ [8, 9, 10, 11, 12, 7, 13, 14, 15, 16, 17, 201, 202, 203, 204, 205, 206, 207, 208, 209, 210] (by decide +kernel) (by decide +kernel)
set_option maxRecDepth 20000 in
theorem gX7_riding_X3_isOn : GoodIn wsX7_riding (wsV RX7 94 RX3 yX3_isOn wsX3_isOn) := goodIn_app (goodIn_of _ (by decide +kernel)) ggX7_riding_X3_isOn
set_option maxRecDepth 20000 in
theorem ggX7_riding_X6_stands : GoodIn wsX7_riding wsX6_stands := goodIn_r _ [22, 23, 24, 211, 212, 213, 214, 215] (by decide +kernel) (by decide +kernel)
set_option maxRecDepth 20000 in
theorem gX7_riding_X6_stands : GoodIn wsX7_riding (wsV RX7 237 RX6 yX6_stands wsX6_stands) := goodIn_app (goodIn_of _ (by decide +kernel)) ggX7_riding_X6_stands
set_option maxRecDepth 20000 in
theorem ggX7_riding_X7_need : GoodIn wsX7_riding wsX7_need := goodIn_ca (goodIn_r _ [27, 28, 29] (by decide +kernel) (by decide +kernel)) (goodIn_sub (fun _ h => List.mem_cons_of_mem _ (List.mem_append_right _ h)) (by decide +kernel))
set_option maxRecDepth 20000 in
theorem gX7_riding_X7_need : GoodIn wsX7_riding (va_wsS RX7 140 yX7_need wsX7_need) := goodIn_app (goodIn_of _ (by decide +kernel)) ggX7_riding_X7_need
set_option maxRecDepth 20000 in
theorem ggX7_riding_X6_loadsAt : GoodIn wsX7_riding wsX6_loadsAt := goodIn_r _ [33, 24, 23, 34, 35, 36, 37, 38, 39, 21, 40, 211, 212, 213, 214, 215] (by decide +kernel) (by decide +kernel)
set_option maxRecDepth 20000 in
theorem gX7_riding_X6_loadsAt : GoodIn wsX7_riding (wsV RX7 240 RX6 yX6_loadsAt wsX6_loadsAt) := goodIn_app (goodIn_of _ (by decide +kernel)) ggX7_riding_X6_loadsAt
set_option maxRecDepth 20000 in
theorem ggX7_riding_X7_bears : GoodIn wsX7_riding wsX7_bears := goodIn_r _ [44, 45, 46, 47, 48, 49, 50, 51, 52, 53, 54, 55, 56, 57, 58, 59, 60, 61, 62, 63, 64, 65, 66, 67, 68, 69, 70, 71, 72, 73, 7, 74, 75, 76, 77, 78, 79, 80, 81, 15, 16, 17, 82, 83, 84, 85, 86, 87, 88, 89, 90, 91, 92, 93, 94, 95, 96, 97, 98, 99, 100, 101, 102, 103, 104, 105, 106, 107, 108, 109, 110, 111, 112, 113, 114, 115, 116, 117, 118, 119, 120, 121, 122, 123, 124, 125, 126, 127, 128, 129, 130, 131, 132, 133, 134, 135, 136, 137, 138, 139, 140, 141, 142, 143, 144, 145, 146, 147, 148, 149, 150, 151, 152, 153, 154, 155, 156, 194, 195, 196, 197, 198, 199, 200, 216, 217, 218, 219, 220, 221, 222, 223, 224, 201, 202, 203, 204, 205, 206, 207, 208, 209, 210, 225, 226, 227, 228, 229, 230, 231] (by decide +kernel) (by decide +kernel)
set_option maxRecDepth 20000 in
theorem gX7_riding_X7_bears : GoodIn wsX7_riding (wsV RX7 166 RX7 yX7_bears wsX7_bears) := goodIn_app (goodIn_of _ (by decide +kernel)) ggX7_riding_X7_bears
set_option maxRecDepth 20000 in
theorem ggX7_riding_X7_toldPull : GoodIn wsX7_riding wsX7_toldPull := goodIn_r _ [160, 46, 161, 162, 163, 164, 115, 165, 117, 141, 166, 167, 168, 169, 118, 119, 128, 120, 122, 136, 95, 16, 96, 170, 171, 172, 173, 150, 174, 175, 176, 177, 178, 179, 180, 181, 182, 183, 184, 185, 186, 187, 103, 188, 189, 190, 191, 192, 193, 194, 195, 196, 197, 198, 199, 200, 225, 226, 227, 228, 229, 230, 231, 201, 202, 203, 204, 205, 206, 207, 208, 209, 210, 216, 217, 218, 219, 220, 221, 222, 223, 224, 232, 233] (by decide +kernel) (by decide +kernel)
set_option maxRecDepth 20000 in
theorem gX7_riding_X7_toldPull : GoodIn wsX7_riding (wsV RX7 170 RX7 yX7_toldPull wsX7_toldPull) := goodIn_app (goodIn_of _ (by decide +kernel)) ggX7_riding_X7_toldPull
theorem dX7_riding_0 : decode cX7_riding 0 = .ok (.aload_n 0, 1) := by decide +kernel
theorem dX7_riding_1 : decode cX7_riding 1 = .ok (.getfield 17, 3) := by decide +kernel
theorem dX7_riding_4 : decode cX7_riding 4 = .ok (.iload_n 1, 1) := by decide +kernel
theorem dX7_riding_5 : decode cX7_riding 5 = .ok (.invokevirtual 94, 3) := by decide +kernel
theorem dX7_riding_8 : decode cX7_riding 8 = .ok (.ifCond .eq 18, 3) := by decide +kernel
theorem dX7_riding_11 : decode cX7_riding 11 = .ok (.aload_n 0, 1) := by decide +kernel
theorem dX7_riding_12 : decode cX7_riding 12 = .ok (.getfield 51, 3) := by decide +kernel
theorem dX7_riding_15 : decode cX7_riding 15 = .ok (.iload_n 2, 1) := by decide +kernel
theorem dX7_riding_16 : decode cX7_riding 16 = .ok (.invokevirtual 237, 3) := by decide +kernel
theorem dX7_riding_19 : decode cX7_riding 19 = .ok (.ifCond .eq 7, 3) := by decide +kernel
theorem dX7_riding_22 : decode cX7_riding 22 = .ok (.iconst 1, 1) := by decide +kernel
theorem dX7_riding_23 : decode cX7_riding 23 = .ok (.goto 4, 3) := by decide +kernel
theorem dX7_riding_26 : decode cX7_riding 26 = .ok (.iconst 0, 1) := by decide +kernel
theorem dX7_riding_27 : decode cX7_riding 27 = .ok (.invokestatic 140, 3) := by decide +kernel
theorem dX7_riding_30 : decode cX7_riding 30 = .ok (.aload_n 0, 1) := by decide +kernel
theorem dX7_riding_31 : decode cX7_riding 31 = .ok (.aload_n 0, 1) := by decide +kernel
theorem dX7_riding_32 : decode cX7_riding 32 = .ok (.getfield 17, 3) := by decide +kernel
theorem dX7_riding_35 : decode cX7_riding 35 = .ok (.getfield 97, 3) := by decide +kernel
theorem dX7_riding_38 : decode cX7_riding 38 = .ok (.aload_n 0, 1) := by decide +kernel
theorem dX7_riding_39 : decode cX7_riding 39 = .ok (.getfield 51, 3) := by decide +kernel
theorem dX7_riding_42 : decode cX7_riding 42 = .ok (.iload_n 2, 1) := by decide +kernel
theorem dX7_riding_43 : decode cX7_riding 43 = .ok (.invokevirtual 240, 3) := by decide +kernel
theorem dX7_riding_46 : decode cX7_riding 46 = .ok (.invokevirtual 166, 3) := by decide +kernel
theorem dX7_riding_49 : decode cX7_riding 49 = .ok (.invokestatic 140, 3) := by decide +kernel
theorem dX7_riding_52 : decode cX7_riding 52 = .ok (.aload_n 0, 1) := by decide +kernel
theorem dX7_riding_53 : decode cX7_riding 53 = .ok (.iload_n 1, 1) := by decide +kernel
theorem dX7_riding_54 : decode cX7_riding 54 = .ok (.iload_n 3, 1) := by decide +kernel
theorem dX7_riding_55 : decode cX7_riding 55 = .ok (.invokevirtual 170, 3) := by decide +kernel
theorem dX7_riding_58 : decode cX7_riding 58 = .ok (.lreturn, 1) := by decide +kernel
set_option maxRecDepth 20000 in
theorem ggX7_worst_X3_isOn : GoodIn wsX7_worst wsX3_isOn := goodIn_r _ [14, 15, 16, 17, 18, 13, 19, 20, 21, 22, 23, 175, 176, 177, 178, 179, 180, 181, 182, 183, 184] (by decide +kernel) (by decide +kernel)
set_option maxRecDepth 20000 in
theorem gX7_worst_X3_isOn : GoodIn wsX7_worst (wsV RX7 94 RX3 yX3_isOn wsX3_isOn) := goodIn_app (goodIn_of _ (by decide +kernel)) ggX7_worst_X3_isOn
set_option maxRecDepth 20000 in
theorem ggX7_worst_X6_stands : GoodIn wsX7_worst wsX6_stands := goodIn_r _ [28, 29, 30, 185, 186, 187, 188, 189] (by decide +kernel) (by decide +kernel)
set_option maxRecDepth 20000 in
theorem gX7_worst_X6_stands : GoodIn wsX7_worst (wsV RX7 237 RX6 yX6_stands wsX6_stands) := goodIn_app (goodIn_of _ (by decide +kernel)) ggX7_worst_X6_stands
set_option maxRecDepth 20000 in
theorem ggX7_worst_X6_loadsAt : GoodIn wsX7_worst wsX6_loadsAt := goodIn_r _ [34, 30, 29, 35, 36, 37, 38, 39, 40, 27, 41, 185, 186, 187, 188, 189] (by decide +kernel) (by decide +kernel)
set_option maxRecDepth 20000 in
theorem gX7_worst_X6_loadsAt : GoodIn wsX7_worst (wsV RX7 240 RX6 yX6_loadsAt wsX6_loadsAt) := goodIn_app (goodIn_of _ (by decide +kernel)) ggX7_worst_X6_loadsAt
set_option maxRecDepth 20000 in
theorem ggX7_worst_X7_bears : GoodIn wsX7_worst wsX7_bears := goodIn_r _ [45, 46, 5, 47, 48, 49, 50, 51, 52, 53, 54, 55, 56, 57, 58, 59, 60, 61, 62, 63, 64, 65, 66, 67, 68, 69, 70, 71, 72, 73, 13, 74, 75, 76, 77, 78, 79, 80, 81, 21, 22, 23, 82, 83, 84, 85, 86, 87, 88, 89, 90, 91, 92, 93, 94, 95, 96, 97, 98, 99, 100, 101, 102, 8, 103, 104, 105, 106, 107, 108, 109, 110, 111, 112, 113, 114, 115, 116, 117, 118, 119, 120, 121, 122, 123, 124, 125, 126, 127, 128, 129, 130, 131, 132, 133, 134, 135, 136, 137, 138, 139, 140, 141, 142, 143, 144, 145, 146, 147, 148, 149, 150, 151, 152, 153, 154, 155, 168, 169, 170, 171, 172, 173, 174, 190, 191, 192, 193, 194, 195, 196, 197, 198, 175, 176, 177, 178, 179, 180, 181, 182, 183, 184, 199, 200, 201, 202, 203, 204, 205] (by decide +kernel) (by decide +kernel)
set_option maxRecDepth 20000 in
theorem gX7_worst_X7_bears : GoodIn wsX7_worst (wsV RX7 166 RX7 yX7_bears wsX7_bears) := goodIn_app (goodIn_of _ (by decide +kernel)) ggX7_worst_X7_bears
set_option maxRecDepth 20000 in
theorem ggX7_worst_X5_bear : GoodIn wsX7_worst wsX5_bear := goodIn_r _ [153, 140, 119, 128, 154, 130, 117, 118, 155, 129, 199, 200, 201, 202, 203, 204, 205, 190, 191, 192, 193, 194, 195, 196, 197, 198, 175, 176, 177, 178, 179, 180, 181, 182, 183, 184] (by decide +kernel) (by decide +kernel)
set_option maxRecDepth 20000 in
theorem gX7_worst_X5_bear : GoodIn wsX7_worst (wsV RX7 245 RX5 yX5_bear wsX5_bear) := goodIn_app (goodIn_of _ (by decide +kernel)) ggX7_worst_X5_bear
set_option maxRecDepth 20000 in
theorem ggX7_worst_X5_overOf : GoodIn wsX7_worst wsX5_overOf := goodIn_r _ [159, 116, 140, 160, 161, 162, 114, 163, 117, 118, 127, 119, 121, 135, 95, 22, 96, 164, 165, 166, 167, 149, 199, 200, 201, 202, 203, 204, 205, 175, 176, 177, 178, 179, 180, 181, 182, 183, 184, 190, 191, 192, 193, 194, 195, 196, 197, 198] (by decide +kernel) (by decide +kernel)
set_option maxRecDepth 20000 in
theorem gX7_worst_X5_overOf : GoodIn wsX7_worst (wsV RX7 199 RX5 yX5_overOf wsX5_overOf) := goodIn_app (goodIn_of _ (by decide +kernel)) ggX7_worst_X5_overOf
theorem dX7_worst_0 : decode cX7_worst 0 = .ok (.aload_n 0, 1) := by decide +kernel
theorem dX7_worst_1 : decode cX7_worst 1 = .ok (.getfield 17, 3) := by decide +kernel
theorem dX7_worst_4 : decode cX7_worst 4 = .ok (.iload_n 1, 1) := by decide +kernel
theorem dX7_worst_5 : decode cX7_worst 5 = .ok (.invokevirtual 94, 3) := by decide +kernel
theorem dX7_worst_8 : decode cX7_worst 8 = .ok (.ifCond .eq 36, 3) := by decide +kernel
theorem dX7_worst_11 : decode cX7_worst 11 = .ok (.aload_n 0, 1) := by decide +kernel
theorem dX7_worst_12 : decode cX7_worst 12 = .ok (.getfield 51, 3) := by decide +kernel
theorem dX7_worst_15 : decode cX7_worst 15 = .ok (.iconst 0, 1) := by decide +kernel
theorem dX7_worst_16 : decode cX7_worst 16 = .ok (.invokevirtual 237, 3) := by decide +kernel
theorem dX7_worst_19 : decode cX7_worst 19 = .ok (.ifCond .eq 25, 3) := by decide +kernel
theorem dX7_worst_22 : decode cX7_worst 22 = .ok (.aload_n 0, 1) := by decide +kernel
theorem dX7_worst_23 : decode cX7_worst 23 = .ok (.aload_n 0, 1) := by decide +kernel
theorem dX7_worst_24 : decode cX7_worst 24 = .ok (.getfield 17, 3) := by decide +kernel
theorem dX7_worst_27 : decode cX7_worst 27 = .ok (.getfield 97, 3) := by decide +kernel
theorem dX7_worst_30 : decode cX7_worst 30 = .ok (.aload_n 0, 1) := by decide +kernel
theorem dX7_worst_31 : decode cX7_worst 31 = .ok (.getfield 51, 3) := by decide +kernel
theorem dX7_worst_34 : decode cX7_worst 34 = .ok (.iconst 0, 1) := by decide +kernel
theorem dX7_worst_35 : decode cX7_worst 35 = .ok (.invokevirtual 240, 3) := by decide +kernel
theorem dX7_worst_38 : decode cX7_worst 38 = .ok (.invokevirtual 166, 3) := by decide +kernel
theorem dX7_worst_41 : decode cX7_worst 41 = .ok (.ifCond .ne 5, 3) := by decide +kernel
theorem dX7_worst_44 : decode cX7_worst 44 = .ok (.iconst (-1), 1) := by decide +kernel
theorem dX7_worst_45 : decode cX7_worst 45 = .ok (.ireturn, 1) := by decide +kernel
theorem dX7_worst_46 : decode cX7_worst 46 = .ok (.iconst (-1), 1) := by decide +kernel
theorem dX7_worst_47 : decode cX7_worst 47 = .ok (.istore_n 2, 1) := by decide +kernel
theorem dX7_worst_48 : decode cX7_worst 48 = .ok (.ldc2_w 243, 3) := by decide +kernel
theorem dX7_worst_51 : decode cX7_worst 51 = .ok (.lstore_n 3, 1) := by decide +kernel
theorem dX7_worst_52 : decode cX7_worst 52 = .ok (.iconst 0, 1) := by decide +kernel
theorem dX7_worst_53 : decode cX7_worst 53 = .ok (.istore 5, 2) := by decide +kernel
theorem dX7_worst_55 : decode cX7_worst 55 = .ok (.iload 5, 2) := by decide +kernel
theorem dX7_worst_57 : decode cX7_worst 57 = .ok (.bipush 10, 2) := by decide +kernel
theorem dX7_worst_59 : decode cX7_worst 59 = .ok (.if_icmp .ge 63, 3) := by decide +kernel
theorem dX7_worst_62 : decode cX7_worst 62 = .ok (.aload_n 0, 1) := by decide +kernel
theorem dX7_worst_63 : decode cX7_worst 63 = .ok (.getfield 51, 3) := by decide +kernel
theorem dX7_worst_66 : decode cX7_worst 66 = .ok (.iload 5, 2) := by decide +kernel
theorem dX7_worst_68 : decode cX7_worst 68 = .ok (.invokevirtual 237, 3) := by decide +kernel
theorem dX7_worst_71 : decode cX7_worst 71 = .ok (.ifCond .eq 51, 3) := by decide +kernel
theorem dX7_worst_74 : decode cX7_worst 74 = .ok (.aload_n 0, 1) := by decide +kernel
theorem dX7_worst_75 : decode cX7_worst 75 = .ok (.getfield 30, 3) := by decide +kernel
theorem dX7_worst_78 : decode cX7_worst 78 = .ok (.aload_n 0, 1) := by decide +kernel
theorem dX7_worst_79 : decode cX7_worst 79 = .ok (.getfield 51, 3) := by decide +kernel
theorem dX7_worst_82 : decode cX7_worst 82 = .ok (.iload 5, 2) := by decide +kernel
theorem dX7_worst_84 : decode cX7_worst 84 = .ok (.invokevirtual 240, 3) := by decide +kernel
theorem dX7_worst_87 : decode cX7_worst 87 = .ok (.invokevirtual 245, 3) := by decide +kernel
theorem dX7_worst_90 : decode cX7_worst 90 = .ok (.aload_n 0, 1) := by decide +kernel
theorem dX7_worst_91 : decode cX7_worst 91 = .ok (.getfield 30, 3) := by decide +kernel
theorem dX7_worst_94 : decode cX7_worst 94 = .ok (.iload_n 1, 1) := by decide +kernel
theorem dX7_worst_95 : decode cX7_worst 95 = .ok (.invokevirtual 199, 3) := by decide +kernel
theorem dX7_worst_98 : decode cX7_worst 98 = .ok (.invokestatic 249, 3) := by decide +kernel
theorem dX7_worst_101 : decode cX7_worst 101 = .ok (.lstore 6, 2) := by decide +kernel
theorem dX7_worst_103 : decode cX7_worst 103 = .ok (.lload 6, 2) := by decide +kernel
theorem dX7_worst_105 : decode cX7_worst 105 = .ok (.lload_n 3, 1) := by decide +kernel
theorem dX7_worst_106 : decode cX7_worst 106 = .ok (.lcmp, 1) := by decide +kernel
theorem dX7_worst_107 : decode cX7_worst 107 = .ok (.ifCond .le 9, 3) := by decide +kernel
theorem dX7_worst_110 : decode cX7_worst 110 = .ok (.lload 6, 2) := by decide +kernel
theorem dX7_worst_112 : decode cX7_worst 112 = .ok (.lstore_n 3, 1) := by decide +kernel
theorem dX7_worst_113 : decode cX7_worst 113 = .ok (.iload 5, 2) := by decide +kernel
theorem dX7_worst_115 : decode cX7_worst 115 = .ok (.istore_n 2, 1) := by decide +kernel
theorem dX7_worst_116 : decode cX7_worst 116 = .ok (.iinc 5 1, 3) := by decide +kernel
theorem dX7_worst_119 : decode cX7_worst 119 = .ok (.goto (-64), 3) := by decide +kernel
theorem dX7_worst_122 : decode cX7_worst 122 = .ok (.iload_n 2, 1) := by decide +kernel
theorem dX7_worst_123 : decode cX7_worst 123 = .ok (.ireturn, 1) := by decide +kernel
set_option maxRecDepth 20000 in
theorem ggX7_without_X3_isOn : GoodIn wsX7_without wsX3_isOn := goodIn_r _ [8, 9, 10, 11, 12, 7, 13, 14, 15, 16, 17, 90, 91, 92, 93, 94, 95, 96, 97, 98, 99] (by decide +kernel) (by decide +kernel)
set_option maxRecDepth 20000 in
theorem gX7_without_X3_isOn : GoodIn wsX7_without (wsV RX7 94 RX3 yX3_isOn wsX3_isOn) := goodIn_app (goodIn_of _ (by decide +kernel)) ggX7_without_X3_isOn
set_option maxRecDepth 20000 in
theorem ggX7_without_X0_settle : GoodIn wsX7_without wsX0_settle := goodIn_r _ [22, 23, 24, 25, 26, 27, 28, 29, 30, 21, 31, 32, 33, 34, 35, 36, 37, 38, 39, 40, 41, 42, 43, 44, 7, 45, 46, 47, 48, 49, 50, 51, 52, 15, 16, 17, 53, 54, 55, 56, 57, 58, 59, 60, 61, 62, 63, 64, 65, 66, 67, 100, 101, 102, 103, 104, 105, 106, 107, 108, 90, 91, 92, 93, 94, 95, 96, 97, 98, 99] (by decide +kernel) (by decide +kernel)
set_option maxRecDepth 20000 in
theorem gX7_without_X0_settle : GoodIn wsX7_without (wsV RX7 159 RX0 yX0_settle wsX0_settle) := goodIn_app (goodIn_of _ (by decide +kernel)) ggX7_without_X0_settle
set_option maxRecDepth 20000 in
theorem ggX7_without_X0_kindNumber : GoodIn wsX7_without wsX0_kindNumber := goodIn_r _ [71, 24, 23, 26, 72, 73, 74, 75, 76, 77, 78, 79, 80, 81, 82, 100, 101, 102, 103, 104, 105, 106, 107, 108] (by decide +kernel) (by decide +kernel)
set_option maxRecDepth 20000 in
theorem gX7_without_X0_kindNumber : GoodIn wsX7_without (wsV RX7 253 RX0 yX0_kindNumber wsX0_kindNumber) := goodIn_app (goodIn_of _ (by decide +kernel)) ggX7_without_X0_kindNumber
theorem dX7_without_0 : decode cX7_without 0 = .ok (.aload_n 0, 1) := by decide +kernel
theorem dX7_without_1 : decode cX7_without 1 = .ok (.getfield 17, 3) := by decide +kernel
theorem dX7_without_4 : decode cX7_without 4 = .ok (.iload_n 1, 1) := by decide +kernel
theorem dX7_without_5 : decode cX7_without 5 = .ok (.invokevirtual 94, 3) := by decide +kernel
theorem dX7_without_8 : decode cX7_without 8 = .ok (.ifCond .ne 5, 3) := by decide +kernel
theorem dX7_without_11 : decode cX7_without 11 = .ok (.iconst (-1), 1) := by decide +kernel
theorem dX7_without_12 : decode cX7_without 12 = .ok (.ireturn, 1) := by decide +kernel
theorem dX7_without_13 : decode cX7_without 13 = .ok (.aload_n 0, 1) := by decide +kernel
theorem dX7_without_14 : decode cX7_without 14 = .ok (.getfield 21, 3) := by decide +kernel
theorem dX7_without_17 : decode cX7_without 17 = .ok (.aload_n 0, 1) := by decide +kernel
theorem dX7_without_18 : decode cX7_without 18 = .ok (.getfield 17, 3) := by decide +kernel
theorem dX7_without_21 : decode cX7_without 21 = .ok (.getfield 97, 3) := by decide +kernel
theorem dX7_without_24 : decode cX7_without 24 = .ok (.iconst 1, 1) := by decide +kernel
theorem dX7_without_25 : decode cX7_without 25 = .ok (.iload_n 1, 1) := by decide +kernel
theorem dX7_without_26 : decode cX7_without 26 = .ok (.ishl, 1) := by decide +kernel
theorem dX7_without_27 : decode cX7_without 27 = .ok (.iconst (-1), 1) := by decide +kernel
theorem dX7_without_28 : decode cX7_without 28 = .ok (.ixor, 1) := by decide +kernel
theorem dX7_without_29 : decode cX7_without 29 = .ok (.iand, 1) := by decide +kernel
theorem dX7_without_30 : decode cX7_without 30 = .ok (.invokevirtual 159, 3) := by decide +kernel
theorem dX7_without_33 : decode cX7_without 33 = .ok (.aload_n 0, 1) := by decide +kernel
theorem dX7_without_34 : decode cX7_without 34 = .ok (.getfield 21, 3) := by decide +kernel
theorem dX7_without_37 : decode cX7_without 37 = .ok (.invokevirtual 253, 3) := by decide +kernel
theorem dX7_without_40 : decode cX7_without 40 = .ok (.ireturn, 1) := by decide +kernel
set_option maxRecDepth 20000 in
theorem ggX7_left_X3_isOn : GoodIn wsX7_left wsX3_isOn := goodIn_r _ [8, 9, 10, 11, 12, 7, 13, 14, 15, 16, 17, 183, 184, 185, 186, 187, 188, 189, 190, 191, 192] (by decide +kernel) (by decide +kernel)
set_option maxRecDepth 20000 in
theorem gX7_left_X3_isOn : GoodIn wsX7_left (wsV RX7 94 RX3 yX3_isOn wsX3_isOn) := goodIn_app (goodIn_of _ (by decide +kernel)) ggX7_left_X3_isOn
set_option maxRecDepth 20000 in
theorem ggX7_left_X7_need : GoodIn wsX7_left wsX7_need := goodIn_ca (goodIn_r _ [20, 21, 22] (by decide +kernel) (by decide +kernel)) (goodIn_sub (fun _ h => List.mem_cons_of_mem _ (List.mem_append_right _ h)) (by decide +kernel))
set_option maxRecDepth 20000 in
theorem gX7_left_X7_need : GoodIn wsX7_left (va_wsS RX7 140 yX7_need wsX7_need) := goodIn_app (goodIn_of _ (by decide +kernel)) ggX7_left_X7_need
set_option maxRecDepth 20000 in
theorem ggX7_left_X7_bears : GoodIn wsX7_left wsX7_bears := goodIn_r _ [26, 27, 28, 29, 30, 31, 32, 33, 34, 35, 36, 37, 38, 39, 40, 41, 42, 43, 44, 45, 46, 47, 48, 49, 50, 51, 52, 53, 54, 55, 7, 56, 57, 58, 59, 60, 61, 62, 63, 15, 16, 17, 64, 65, 66, 67, 68, 69, 70, 71, 72, 73, 74, 75, 76, 77, 78, 79, 80, 81, 82, 83, 84, 85, 86, 87, 88, 89, 90, 91, 92, 93, 94, 95, 96, 97, 98, 99, 100, 101, 102, 103, 104, 105, 106, 107, 108, 109, 110, 111, 112, 113, 114, 115, 116, 117, 118, 119, 120, 121, 122, 123, 124, 125, 126, 127, 128, 129, 130, 131, 132, 133, 134, 135, 136, 137, 138, 176, 177, 178, 179, 180, 181, 182, 193, 194, 195, 196, 197, 198, 199, 200, 201, 183, 184, 185, 186, 187, 188, 189, 190, 191, 192, 202, 203, 204, 205, 206, 207, 208] (by decide +kernel) (by decide +kernel)
set_option maxRecDepth 20000 in
theorem gX7_left_X7_bears : GoodIn wsX7_left (wsV RX7 166 RX7 yX7_bears wsX7_bears) := goodIn_app (goodIn_of _ (by decide +kernel)) ggX7_left_X7_bears
set_option maxRecDepth 20000 in
theorem ggX7_left_X7_toldPull : GoodIn wsX7_left wsX7_toldPull := goodIn_r _ [142, 28, 143, 144, 145, 146, 97, 147, 99, 123, 148, 149, 150, 151, 100, 101, 110, 102, 104, 118, 77, 16, 78, 152, 153, 154, 155, 132, 156, 157, 158, 159, 160, 161, 162, 163, 164, 165, 166, 167, 168, 169, 85, 170, 171, 172, 173, 174, 175, 176, 177, 178, 179, 180, 181, 182, 202, 203, 204, 205, 206, 207, 208, 183, 184, 185, 186, 187, 188, 189, 190, 191, 192, 193, 194, 195, 196, 197, 198, 199, 200, 201, 209, 210] (by decide +kernel) (by decide +kernel)
set_option maxRecDepth 20000 in
theorem gX7_left_X7_toldPull : GoodIn wsX7_left (wsV RX7 170 RX7 yX7_toldPull wsX7_toldPull) := goodIn_app (goodIn_of _ (by decide +kernel)) ggX7_left_X7_toldPull
theorem dX7_left_0 : decode cX7_left 0 = .ok (.aload_n 0, 1) := by decide +kernel
theorem dX7_left_1 : decode cX7_left 1 = .ok (.getfield 17, 3) := by decide +kernel
theorem dX7_left_4 : decode cX7_left 4 = .ok (.iload_n 1, 1) := by decide +kernel
theorem dX7_left_5 : decode cX7_left 5 = .ok (.invokevirtual 94, 3) := by decide +kernel
theorem dX7_left_8 : decode cX7_left 8 = .ok (.ifCond .eq 23, 3) := by decide +kernel
theorem dX7_left_11 : decode cX7_left 11 = .ok (.aload_n 0, 1) := by decide +kernel
theorem dX7_left_12 : decode cX7_left 12 = .ok (.getfield 17, 3) := by decide +kernel
theorem dX7_left_15 : decode cX7_left 15 = .ok (.iload_n 2, 1) := by decide +kernel
theorem dX7_left_16 : decode cX7_left 16 = .ok (.invokevirtual 94, 3) := by decide +kernel
theorem dX7_left_19 : decode cX7_left 19 = .ok (.ifCond .eq 12, 3) := by decide +kernel
theorem dX7_left_22 : decode cX7_left 22 = .ok (.iload_n 1, 1) := by decide +kernel
theorem dX7_left_23 : decode cX7_left 23 = .ok (.iload_n 2, 1) := by decide +kernel
theorem dX7_left_24 : decode cX7_left 24 = .ok (.if_icmp .eq 7, 3) := by decide +kernel
theorem dX7_left_27 : decode cX7_left 27 = .ok (.iconst 1, 1) := by decide +kernel
theorem dX7_left_28 : decode cX7_left 28 = .ok (.goto 4, 3) := by decide +kernel
theorem dX7_left_31 : decode cX7_left 31 = .ok (.iconst 0, 1) := by decide +kernel
theorem dX7_left_32 : decode cX7_left 32 = .ok (.invokestatic 140, 3) := by decide +kernel
theorem dX7_left_35 : decode cX7_left 35 = .ok (.aload_n 0, 1) := by decide +kernel
theorem dX7_left_36 : decode cX7_left 36 = .ok (.aload_n 0, 1) := by decide +kernel
theorem dX7_left_37 : decode cX7_left 37 = .ok (.getfield 17, 3) := by decide +kernel
theorem dX7_left_40 : decode cX7_left 40 = .ok (.getfield 97, 3) := by decide +kernel
theorem dX7_left_43 : decode cX7_left 43 = .ok (.iconst 1, 1) := by decide +kernel
theorem dX7_left_44 : decode cX7_left 44 = .ok (.iload_n 1, 1) := by decide +kernel
theorem dX7_left_45 : decode cX7_left 45 = .ok (.ishl, 1) := by decide +kernel
theorem dX7_left_46 : decode cX7_left 46 = .ok (.iconst (-1), 1) := by decide +kernel
theorem dX7_left_47 : decode cX7_left 47 = .ok (.ixor, 1) := by decide +kernel
theorem dX7_left_48 : decode cX7_left 48 = .ok (.iand, 1) := by decide +kernel
theorem dX7_left_49 : decode cX7_left 49 = .ok (.aload_n 0, 1) := by decide +kernel
theorem dX7_left_50 : decode cX7_left 50 = .ok (.getfield 17, 3) := by decide +kernel
theorem dX7_left_53 : decode cX7_left 53 = .ok (.getfield 117, 3) := by decide +kernel
theorem dX7_left_56 : decode cX7_left 56 = .ok (.invokevirtual 166, 3) := by decide +kernel
theorem dX7_left_59 : decode cX7_left 59 = .ok (.invokestatic 140, 3) := by decide +kernel
theorem dX7_left_62 : decode cX7_left 62 = .ok (.aload_n 0, 1) := by decide +kernel
theorem dX7_left_63 : decode cX7_left 63 = .ok (.iload_n 2, 1) := by decide +kernel
theorem dX7_left_64 : decode cX7_left 64 = .ok (.iload_n 3, 1) := by decide +kernel
theorem dX7_left_65 : decode cX7_left 65 = .ok (.invokevirtual 170, 3) := by decide +kernel
theorem dX7_left_68 : decode cX7_left 68 = .ok (.lreturn, 1) := by decide +kernel
set_option maxRecDepth 20000 in
theorem ggX7_keys_X0_settle : GoodIn wsX7_keys wsX0_settle := goodIn_r _ [8, 9, 10, 11, 12, 13, 14, 15, 16, 7, 17, 18, 19, 20, 21, 22, 23, 24, 25, 26, 27, 28, 29, 30, 31, 32, 33, 34, 35, 36, 37, 38, 39, 40, 41, 42, 43, 44, 45, 46, 47, 48, 49, 50, 51, 52, 53, 54, 55, 56, 57, 83, 84, 85, 86, 87, 88, 89, 90, 91, 73, 74, 75, 76, 77, 78, 79, 80, 81, 82] (by decide +kernel) (by decide +kernel)
set_option maxRecDepth 20000 in
theorem gX7_keys_X0_settle : GoodIn wsX7_keys (wsV RX7 159 RX0 yX0_settle wsX0_settle) := goodIn_app (goodIn_of _ (by decide +kernel)) ggX7_keys_X0_settle
set_option maxRecDepth 20000 in
theorem ggX7_keys_X0_neededBars : GoodIn wsX7_keys wsX0_neededBars := goodIn_r _ [61, 10, 47, 9, 62, 63, 64, 7, 65, 18, 26, 12, 27, 40, 41, 42, 83, 84, 85, 86, 87, 88, 89, 90, 91, 73, 74, 75, 76, 77, 78, 79, 80, 81, 82] (by decide +kernel) (by decide +kernel)
set_option maxRecDepth 20000 in
theorem gX7_keys_X0_neededBars : GoodIn wsX7_keys (wsV RX7 257 RX0 yX0_neededBars wsX0_neededBars) := goodIn_app (goodIn_of _ (by decide +kernel)) ggX7_keys_X0_neededBars
theorem dX7_keys_0 : decode cX7_keys 0 = .ok (.aload_n 0, 1) := by decide +kernel
theorem dX7_keys_1 : decode cX7_keys 1 = .ok (.getfield 21, 3) := by decide +kernel
theorem dX7_keys_4 : decode cX7_keys 4 = .ok (.aload_n 0, 1) := by decide +kernel
theorem dX7_keys_5 : decode cX7_keys 5 = .ok (.getfield 17, 3) := by decide +kernel
theorem dX7_keys_8 : decode cX7_keys 8 = .ok (.getfield 97, 3) := by decide +kernel
theorem dX7_keys_11 : decode cX7_keys 11 = .ok (.invokevirtual 159, 3) := by decide +kernel
theorem dX7_keys_14 : decode cX7_keys 14 = .ok (.aload_n 0, 1) := by decide +kernel
theorem dX7_keys_15 : decode cX7_keys 15 = .ok (.getfield 21, 3) := by decide +kernel
theorem dX7_keys_18 : decode cX7_keys 18 = .ok (.invokevirtual 257, 3) := by decide +kernel
theorem dX7_keys_21 : decode cX7_keys 21 = .ok (.ireturn, 1) := by decide +kernel
set_option maxRecDepth 20000 in
theorem ggX7_mend_X0_settle : GoodIn wsX7_mend wsX0_settle := goodIn_r _ [10, 11, 12, 13, 14, 15, 16, 17, 18, 9, 19, 20, 21, 22, 23, 24, 25, 26, 27, 28, 29, 30, 31, 32, 33, 34, 35, 36, 37, 38, 39, 40, 41, 42, 43, 44, 45, 46, 47, 48, 49, 50, 51, 52, 53, 54, 55, 56, 57, 58, 59, 94, 95, 96, 97, 98, 99, 100, 101, 102, 84, 85, 86, 87, 88, 89, 90, 91, 92, 93] (by decide +kernel) (by decide +kernel)
set_option maxRecDepth 20000 in
theorem gX7_mend_X0_settle : GoodIn wsX7_mend (wsV RX7 159 RX0 yX0_settle wsX0_settle) := goodIn_app (goodIn_of _ (by decide +kernel)) ggX7_mend_X0_settle
set_option maxRecDepth 20000 in
theorem ggX7_mend_X0_extend : GoodIn wsX7_mend wsX0_extend := goodIn_r _ [41, 20, 28, 42, 43, 44, 45, 46, 47, 9, 48, 12, 11, 29, 14, 49, 13, 50, 51, 52, 53, 54, 55, 56, 57, 15, 58, 59, 94, 95, 96, 97, 98, 99, 100, 101, 102, 84, 85, 86, 87, 88, 89, 90, 91, 92, 93] (by decide +kernel) (by decide +kernel)
set_option maxRecDepth 20000 in
theorem gX7_mend_X0_extend : GoodIn wsX7_mend (wsV RX7 260 RX0 yX0_extend wsX0_extend) := goodIn_app (goodIn_of _ (by decide +kernel)) ggX7_mend_X0_extend
set_option maxRecDepth 20000 in
theorem ggX7_mend_X0_kindNumber : GoodIn wsX7_mend wsX0_kindNumber := goodIn_r _ [64, 12, 11, 14, 65, 66, 67, 68, 69, 70, 71, 72, 73, 74, 75, 94, 95, 96, 97, 98, 99, 100, 101, 102] (by decide +kernel) (by decide +kernel)
set_option maxRecDepth 20000 in
theorem gX7_mend_X0_kindNumber : GoodIn wsX7_mend (wsV RX7 253 RX0 yX0_kindNumber wsX0_kindNumber) := goodIn_app (goodIn_of _ (by decide +kernel)) ggX7_mend_X0_kindNumber
set_option maxRecDepth 20000 in
theorem ggX7_mend_J6_bitCount_0f7a4 : GoodIn wsX7_mend wsJ6_bitCount_0f7a4 := goodIn_r _ [72, 73, 74, 75] (by decide +kernel) (by decide +kernel)
set_option maxRecDepth 20000 in
theorem gX7_mend_J6_bitCount_0f7a4 : GoodIn wsX7_mend (va_wsS RX7 266 yJ6_bitCount_0f7a4 wsJ6_bitCount_0f7a4) := goodIn_app (goodIn_of _ (by decide +kernel)) ggX7_mend_J6_bitCount_0f7a4
theorem dX7_mend_0 : decode cX7_mend 0 = .ok (.aload_n 0, 1) := by decide +kernel
theorem dX7_mend_1 : decode cX7_mend 1 = .ok (.getfield 21, 3) := by decide +kernel
theorem dX7_mend_4 : decode cX7_mend 4 = .ok (.aload_n 0, 1) := by decide +kernel
theorem dX7_mend_5 : decode cX7_mend 5 = .ok (.getfield 17, 3) := by decide +kernel
theorem dX7_mend_8 : decode cX7_mend 8 = .ok (.getfield 97, 3) := by decide +kernel
theorem dX7_mend_11 : decode cX7_mend 11 = .ok (.invokevirtual 159, 3) := by decide +kernel
theorem dX7_mend_14 : decode cX7_mend 14 = .ok (.aload_n 0, 1) := by decide +kernel
theorem dX7_mend_15 : decode cX7_mend 15 = .ok (.getfield 21, 3) := by decide +kernel
theorem dX7_mend_18 : decode cX7_mend 18 = .ok (.iconst 1, 1) := by decide +kernel
theorem dX7_mend_19 : decode cX7_mend 19 = .ok (.aload_n 0, 1) := by decide +kernel
theorem dX7_mend_20 : decode cX7_mend 20 = .ok (.getfield 17, 3) := by decide +kernel
theorem dX7_mend_23 : decode cX7_mend 23 = .ok (.getfield 78, 3) := by decide +kernel
theorem dX7_mend_26 : decode cX7_mend 26 = .ok (.ishl, 1) := by decide +kernel
theorem dX7_mend_27 : decode cX7_mend 27 = .ok (.iconst 1, 1) := by decide +kernel
theorem dX7_mend_28 : decode cX7_mend 28 = .ok (.isub, 1) := by decide +kernel
theorem dX7_mend_29 : decode cX7_mend 29 = .ok (.aload_n 0, 1) := by decide +kernel
theorem dX7_mend_30 : decode cX7_mend 30 = .ok (.getfield 17, 3) := by decide +kernel
theorem dX7_mend_33 : decode cX7_mend 33 = .ok (.getfield 97, 3) := by decide +kernel
theorem dX7_mend_36 : decode cX7_mend 36 = .ok (.iconst (-1), 1) := by decide +kernel
theorem dX7_mend_37 : decode cX7_mend 37 = .ok (.ixor, 1) := by decide +kernel
theorem dX7_mend_38 : decode cX7_mend 38 = .ok (.iand, 1) := by decide +kernel
theorem dX7_mend_39 : decode cX7_mend 39 = .ok (.invokevirtual 260, 3) := by decide +kernel
theorem dX7_mend_42 : decode cX7_mend 42 = .ok (.aload_n 0, 1) := by decide +kernel
theorem dX7_mend_43 : decode cX7_mend 43 = .ok (.getfield 21, 3) := by decide +kernel
theorem dX7_mend_46 : decode cX7_mend 46 = .ok (.invokevirtual 253, 3) := by decide +kernel
theorem dX7_mend_49 : decode cX7_mend 49 = .ok (.ifCond .ne 5, 3) := by decide +kernel
theorem dX7_mend_52 : decode cX7_mend 52 = .ok (.iconst (-1), 1) := by decide +kernel
theorem dX7_mend_53 : decode cX7_mend 53 = .ok (.ireturn, 1) := by decide +kernel
theorem dX7_mend_54 : decode cX7_mend 54 = .ok (.aload_n 0, 1) := by decide +kernel
theorem dX7_mend_55 : decode cX7_mend 55 = .ok (.getfield 21, 3) := by decide +kernel
theorem dX7_mend_58 : decode cX7_mend 58 = .ok (.getfield 263, 3) := by decide +kernel
theorem dX7_mend_61 : decode cX7_mend 61 = .ok (.aload_n 0, 1) := by decide +kernel
theorem dX7_mend_62 : decode cX7_mend 62 = .ok (.getfield 17, 3) := by decide +kernel
theorem dX7_mend_65 : decode cX7_mend 65 = .ok (.getfield 97, 3) := by decide +kernel
theorem dX7_mend_68 : decode cX7_mend 68 = .ok (.iconst (-1), 1) := by decide +kernel
theorem dX7_mend_69 : decode cX7_mend 69 = .ok (.ixor, 1) := by decide +kernel
theorem dX7_mend_70 : decode cX7_mend 70 = .ok (.iand, 1) := by decide +kernel
theorem dX7_mend_71 : decode cX7_mend 71 = .ok (.istore_n 2, 1) := by decide +kernel
theorem dX7_mend_72 : decode cX7_mend 72 = .ok (.iload_n 1, 1) := by decide +kernel
theorem dX7_mend_73 : decode cX7_mend 73 = .ok (.ifCond .eq 7, 3) := by decide +kernel
theorem dX7_mend_76 : decode cX7_mend 76 = .ok (.iload_n 2, 1) := by decide +kernel
theorem dX7_mend_77 : decode cX7_mend 77 = .ok (.goto 7, 3) := by decide +kernel
theorem dX7_mend_80 : decode cX7_mend 80 = .ok (.iload_n 2, 1) := by decide +kernel
theorem dX7_mend_81 : decode cX7_mend 81 = .ok (.invokestatic 266, 3) := by decide +kernel
theorem dX7_mend_84 : decode cX7_mend 84 = .ok (.ireturn, 1) := by decide +kernel
theorem dX7_need_0 : decode cX7_need 0 = .ok (.iload_n 0, 1) := by decide +kernel
theorem dX7_need_1 : decode cX7_need 1 = .ok (.ifCond .ne 11, 3) := by decide +kernel
theorem dX7_need_4 : decode cX7_need 4 = .ok (.new 150, 3) := by decide +kernel
theorem dX7_need_7 : decode cX7_need 7 = .ok (.dup, 1) := by decide +kernel
theorem dX7_need_8 : decode cX7_need 8 = .ok (.invokespecial 152, 3) := by decide +kernel
theorem dX7_need_11 : decode cX7_need 11 = .ok (.athrow, 1) := by decide +kernel
theorem dX7_need_12 : decode cX7_need 12 = .ok (.return_, 1) := by decide +kernel
theorem dX7_isDirection_0 : decode cX7_isDirection 0 = .ok (.iload_n 0, 1) := by decide +kernel
theorem dX7_isDirection_1 : decode cX7_isDirection 1 = .ok (.ifCond .eq 8, 3) := by decide +kernel
theorem dX7_isDirection_4 : decode cX7_isDirection 4 = .ok (.iload_n 0, 1) := by decide +kernel
theorem dX7_isDirection_5 : decode cX7_isDirection 5 = .ok (.iconst 1, 1) := by decide +kernel
theorem dX7_isDirection_6 : decode cX7_isDirection 6 = .ok (.if_icmp .ne 7, 3) := by decide +kernel
theorem dX7_isDirection_9 : decode cX7_isDirection 9 = .ok (.iconst 1, 1) := by decide +kernel
theorem dX7_isDirection_10 : decode cX7_isDirection 10 = .ok (.goto 4, 3) := by decide +kernel
theorem dX7_isDirection_13 : decode cX7_isDirection 13 = .ok (.iconst 0, 1) := by decide +kernel
theorem dX7_isDirection_14 : decode cX7_isDirection 14 = .ok (.ireturn, 1) := by decide +kernel
theorem dX7_isGive_0 : decode cX7_isGive 0 = .ok (.iload_n 0, 1) := by decide +kernel
theorem dX7_isGive_1 : decode cX7_isGive 1 = .ok (.iconst 1, 1) := by decide +kernel
theorem dX7_isGive_2 : decode cX7_isGive 2 = .ok (.if_icmp .lt 12, 3) := by decide +kernel
theorem dX7_isGive_5 : decode cX7_isGive 5 = .ok (.iload_n 0, 1) := by decide +kernel
theorem dX7_isGive_6 : decode cX7_isGive 6 = .ok (.iconst 3, 1) := by decide +kernel
theorem dX7_isGive_7 : decode cX7_isGive 7 = .ok (.if_icmp .gt 7, 3) := by decide +kernel
theorem dX7_isGive_10 : decode cX7_isGive 10 = .ok (.iconst 1, 1) := by decide +kernel
theorem dX7_isGive_11 : decode cX7_isGive 11 = .ok (.goto 4, 3) := by decide +kernel
theorem dX7_isGive_14 : decode cX7_isGive 14 = .ok (.iconst 0, 1) := by decide +kernel
theorem dX7_isGive_15 : decode cX7_isGive 15 = .ok (.ireturn, 1) := by decide +kernel
theorem dX7_isLoad_0 : decode cX7_isLoad 0 = .ok (.iload_n 0, 1) := by decide +kernel
theorem dX7_isLoad_1 : decode cX7_isLoad 1 = .ok (.bipush (-9), 2) := by decide +kernel
theorem dX7_isLoad_3 : decode cX7_isLoad 3 = .ok (.if_icmp .lt 13, 3) := by decide +kernel
theorem dX7_isLoad_6 : decode cX7_isLoad 6 = .ok (.iload_n 0, 1) := by decide +kernel
theorem dX7_isLoad_7 : decode cX7_isLoad 7 = .ok (.bipush 9, 2) := by decide +kernel
theorem dX7_isLoad_9 : decode cX7_isLoad 9 = .ok (.if_icmp .gt 7, 3) := by decide +kernel
theorem dX7_isLoad_12 : decode cX7_isLoad 12 = .ok (.iconst 1, 1) := by decide +kernel
theorem dX7_isLoad_13 : decode cX7_isLoad 13 = .ok (.goto 4, 3) := by decide +kernel
theorem dX7_isLoad_16 : decode cX7_isLoad 16 = .ok (.iconst 0, 1) := by decide +kernel
theorem dX7_isLoad_17 : decode cX7_isLoad 17 = .ok (.ireturn, 1) := by decide +kernel
theorem dX7_has_0 : decode cX7_has 0 = .ok (.iload_n 0, 1) := by decide +kernel
theorem dX7_has_1 : decode cX7_has 1 = .ok (.iload_n 1, 1) := by decide +kernel
theorem dX7_has_2 : decode cX7_has 2 = .ok (.ishr, 1) := by decide +kernel
theorem dX7_has_3 : decode cX7_has 3 = .ok (.iconst 1, 1) := by decide +kernel
theorem dX7_has_4 : decode cX7_has 4 = .ok (.iand, 1) := by decide +kernel
theorem dX7_has_5 : decode cX7_has 5 = .ok (.iconst 1, 1) := by decide +kernel
theorem dX7_has_6 : decode cX7_has 6 = .ok (.if_icmp .ne 7, 3) := by decide +kernel
theorem dX7_has_9 : decode cX7_has 9 = .ok (.iconst 1, 1) := by decide +kernel
theorem dX7_has_10 : decode cX7_has 10 = .ok (.goto 4, 3) := by decide +kernel
theorem dX7_has_13 : decode cX7_has 13 = .ok (.iconst 0, 1) := by decide +kernel
theorem dX7_has_14 : decode cX7_has 14 = .ok (.ireturn, 1) := by decide +kernel
theorem dX7_quotient_0 : decode cX7_quotient 0 = .ok (.lload_n 2, 1) := by decide +kernel
theorem dX7_quotient_1 : decode cX7_quotient 1 = .ok (.lconst 0, 1) := by decide +kernel
theorem dX7_quotient_2 : decode cX7_quotient 2 = .ok (.lcmp, 1) := by decide +kernel
theorem dX7_quotient_3 : decode cX7_quotient 3 = .ok (.ifCond .ne 7, 3) := by decide +kernel
theorem dX7_quotient_6 : decode cX7_quotient 6 = .ok (.lconst 0, 1) := by decide +kernel
theorem dX7_quotient_7 : decode cX7_quotient 7 = .ok (.goto 6, 3) := by decide +kernel
theorem dX7_quotient_10 : decode cX7_quotient 10 = .ok (.lload_n 0, 1) := by decide +kernel
theorem dX7_quotient_11 : decode cX7_quotient 11 = .ok (.lload_n 2, 1) := by decide +kernel
theorem dX7_quotient_12 : decode cX7_quotient 12 = .ok (.ldiv, 1) := by decide +kernel
theorem dX7_quotient_13 : decode cX7_quotient 13 = .ok (.lreturn, 1) := by decide +kernel
set_option maxRecDepth 20000 in
theorem ggX7_isFreePlace_X3_hasPinAt : GoodIn wsX7_isFreePlace wsX3_hasPinAt := goodIn_r _ [6, 7, 8, 16, 17, 18, 19, 20, 21, 22, 23, 24, 25] (by decide +kernel) (by decide +kernel)
set_option maxRecDepth 20000 in
theorem gX7_isFreePlace_X3_hasPinAt : GoodIn wsX7_isFreePlace (wsV RX7 271 RX3 yX3_hasPinAt wsX3_hasPinAt) := goodIn_app (goodIn_of _ (by decide +kernel)) ggX7_isFreePlace_X3_hasPinAt
theorem dX7_isFreePlace_0 : decode cX7_isFreePlace 0 = .ok (.iload_n 1, 1) := by decide +kernel
theorem dX7_isFreePlace_1 : decode cX7_isFreePlace 1 = .ok (.ifCond .lt 21, 3) := by decide +kernel
theorem dX7_isFreePlace_4 : decode cX7_isFreePlace 4 = .ok (.iload_n 1, 1) := by decide +kernel
theorem dX7_isFreePlace_5 : decode cX7_isFreePlace 5 = .ok (.iconst 4, 1) := by decide +kernel
theorem dX7_isFreePlace_6 : decode cX7_isFreePlace 6 = .ok (.if_icmp .ge 16, 3) := by decide +kernel
theorem dX7_isFreePlace_9 : decode cX7_isFreePlace 9 = .ok (.iload_n 2, 1) := by decide +kernel
theorem dX7_isFreePlace_10 : decode cX7_isFreePlace 10 = .ok (.ifCond .lt 12, 3) := by decide +kernel
theorem dX7_isFreePlace_13 : decode cX7_isFreePlace 13 = .ok (.iload_n 2, 1) := by decide +kernel
theorem dX7_isFreePlace_14 : decode cX7_isFreePlace 14 = .ok (.iconst 3, 1) := by decide +kernel
theorem dX7_isFreePlace_15 : decode cX7_isFreePlace 15 = .ok (.if_icmp .ge 7, 3) := by decide +kernel
theorem dX7_isFreePlace_18 : decode cX7_isFreePlace 18 = .ok (.iconst 1, 1) := by decide +kernel
theorem dX7_isFreePlace_19 : decode cX7_isFreePlace 19 = .ok (.goto 4, 3) := by decide +kernel
theorem dX7_isFreePlace_22 : decode cX7_isFreePlace 22 = .ok (.iconst 0, 1) := by decide +kernel
theorem dX7_isFreePlace_23 : decode cX7_isFreePlace 23 = .ok (.istore_n 3, 1) := by decide +kernel
theorem dX7_isFreePlace_24 : decode cX7_isFreePlace 24 = .ok (.iload_n 3, 1) := by decide +kernel
theorem dX7_isFreePlace_25 : decode cX7_isFreePlace 25 = .ok (.ifCond .eq 19, 3) := by decide +kernel
theorem dX7_isFreePlace_28 : decode cX7_isFreePlace 28 = .ok (.aload_n 0, 1) := by decide +kernel
theorem dX7_isFreePlace_29 : decode cX7_isFreePlace 29 = .ok (.getfield 17, 3) := by decide +kernel
theorem dX7_isFreePlace_32 : decode cX7_isFreePlace 32 = .ok (.iload_n 1, 1) := by decide +kernel
theorem dX7_isFreePlace_33 : decode cX7_isFreePlace 33 = .ok (.iload_n 2, 1) := by decide +kernel
theorem dX7_isFreePlace_34 : decode cX7_isFreePlace 34 = .ok (.invokevirtual 271, 3) := by decide +kernel
theorem dX7_isFreePlace_37 : decode cX7_isFreePlace 37 = .ok (.ifCond .ne 7, 3) := by decide +kernel
theorem dX7_isFreePlace_40 : decode cX7_isFreePlace 40 = .ok (.iconst 1, 1) := by decide +kernel
theorem dX7_isFreePlace_41 : decode cX7_isFreePlace 41 = .ok (.goto 4, 3) := by decide +kernel
theorem dX7_isFreePlace_44 : decode cX7_isFreePlace 44 = .ok (.iconst 0, 1) := by decide +kernel
theorem dX7_isFreePlace_45 : decode cX7_isFreePlace 45 = .ok (.ireturn, 1) := by decide +kernel
set_option maxRecDepth 20000 in
theorem ggX7_countOfBalance_X0_settle : GoodIn wsX7_countOfBalance wsX0_settle := goodIn_r _ [12, 13, 14, 15, 16, 17, 18, 19, 20, 11, 21, 22, 23, 24, 25, 26, 27, 28, 29, 30, 31, 32, 33, 34, 35, 36, 37, 38, 39, 40, 41, 42, 43, 44, 45, 46, 47, 48, 49, 50, 51, 52, 53, 54, 55, 56, 57, 58, 59, 60, 61, 94, 95, 96, 97, 98, 99, 100, 101, 102, 84, 85, 86, 87, 88, 89, 90, 91, 92, 93] (by decide +kernel) (by decide +kernel)
set_option maxRecDepth 20000 in
theorem gX7_countOfBalance_X0_settle : GoodIn wsX7_countOfBalance (wsV RX7 159 RX0 yX0_settle wsX0_settle) := goodIn_app (goodIn_of _ (by decide +kernel)) ggX7_countOfBalance_X0_settle
set_option maxRecDepth 20000 in
theorem ggX7_countOfBalance_X0_kindNumber : GoodIn wsX7_countOfBalance wsX0_kindNumber := goodIn_r _ [65, 14, 13, 16, 66, 67, 68, 69, 70, 71, 72, 73, 74, 75, 76, 94, 95, 96, 97, 98, 99, 100, 101, 102] (by decide +kernel) (by decide +kernel)
set_option maxRecDepth 20000 in
theorem gX7_countOfBalance_X0_kindNumber : GoodIn wsX7_countOfBalance (wsV RX7 253 RX0 yX0_kindNumber wsX0_kindNumber) := goodIn_app (goodIn_of _ (by decide +kernel)) ggX7_countOfBalance_X0_kindNumber
theorem dX7_countOfBalance_0 : decode cX7_countOfBalance 0 = .ok (.aload_n 0, 1) := by decide +kernel
theorem dX7_countOfBalance_1 : decode cX7_countOfBalance 1 = .ok (.getfield 21, 3) := by decide +kernel
theorem dX7_countOfBalance_4 : decode cX7_countOfBalance 4 = .ok (.aload_n 0, 1) := by decide +kernel
theorem dX7_countOfBalance_5 : decode cX7_countOfBalance 5 = .ok (.getfield 17, 3) := by decide +kernel
theorem dX7_countOfBalance_8 : decode cX7_countOfBalance 8 = .ok (.getfield 97, 3) := by decide +kernel
theorem dX7_countOfBalance_11 : decode cX7_countOfBalance 11 = .ok (.invokevirtual 159, 3) := by decide +kernel
theorem dX7_countOfBalance_14 : decode cX7_countOfBalance 14 = .ok (.iload_n 1, 1) := by decide +kernel
theorem dX7_countOfBalance_15 : decode cX7_countOfBalance 15 = .ok (.tableswitch 81 3 7 #[33, 41, 49, 57, 65], 33) := by decide +kernel
theorem dX7_countOfBalance_48 : decode cX7_countOfBalance 48 = .ok (.aload_n 0, 1) := by decide +kernel
theorem dX7_countOfBalance_49 : decode cX7_countOfBalance 49 = .ok (.getfield 21, 3) := by decide +kernel
theorem dX7_countOfBalance_52 : decode cX7_countOfBalance 52 = .ok (.getfield 274, 3) := by decide +kernel
theorem dX7_countOfBalance_55 : decode cX7_countOfBalance 55 = .ok (.ireturn, 1) := by decide +kernel
theorem dX7_countOfBalance_56 : decode cX7_countOfBalance 56 = .ok (.aload_n 0, 1) := by decide +kernel
theorem dX7_countOfBalance_57 : decode cX7_countOfBalance 57 = .ok (.getfield 21, 3) := by decide +kernel
theorem dX7_countOfBalance_60 : decode cX7_countOfBalance 60 = .ok (.invokevirtual 253, 3) := by decide +kernel
theorem dX7_countOfBalance_63 : decode cX7_countOfBalance 63 = .ok (.ireturn, 1) := by decide +kernel
theorem dX7_countOfBalance_64 : decode cX7_countOfBalance 64 = .ok (.aload_n 0, 1) := by decide +kernel
theorem dX7_countOfBalance_65 : decode cX7_countOfBalance 65 = .ok (.getfield 21, 3) := by decide +kernel
theorem dX7_countOfBalance_68 : decode cX7_countOfBalance 68 = .ok (.getfield 263, 3) := by decide +kernel
theorem dX7_countOfBalance_71 : decode cX7_countOfBalance 71 = .ok (.ireturn, 1) := by decide +kernel
theorem dX7_countOfBalance_72 : decode cX7_countOfBalance 72 = .ok (.aload_n 0, 1) := by decide +kernel
theorem dX7_countOfBalance_73 : decode cX7_countOfBalance 73 = .ok (.getfield 21, 3) := by decide +kernel
theorem dX7_countOfBalance_76 : decode cX7_countOfBalance 76 = .ok (.getfield 277, 3) := by decide +kernel
theorem dX7_countOfBalance_79 : decode cX7_countOfBalance 79 = .ok (.ireturn, 1) := by decide +kernel
theorem dX7_countOfBalance_80 : decode cX7_countOfBalance 80 = .ok (.aload_n 0, 1) := by decide +kernel
theorem dX7_countOfBalance_81 : decode cX7_countOfBalance 81 = .ok (.getfield 21, 3) := by decide +kernel
theorem dX7_countOfBalance_84 : decode cX7_countOfBalance 84 = .ok (.getfield 274, 3) := by decide +kernel
theorem dX7_countOfBalance_87 : decode cX7_countOfBalance 87 = .ok (.aload_n 0, 1) := by decide +kernel
theorem dX7_countOfBalance_88 : decode cX7_countOfBalance 88 = .ok (.getfield 21, 3) := by decide +kernel
theorem dX7_countOfBalance_91 : decode cX7_countOfBalance 91 = .ok (.getfield 280, 3) := by decide +kernel
theorem dX7_countOfBalance_94 : decode cX7_countOfBalance 94 = .ok (.isub, 1) := by decide +kernel
theorem dX7_countOfBalance_95 : decode cX7_countOfBalance 95 = .ok (.ireturn, 1) := by decide +kernel
theorem dX7_countOfBalance_96 : decode cX7_countOfBalance 96 = .ok (.iconst (-1), 1) := by decide +kernel
theorem dX7_countOfBalance_97 : decode cX7_countOfBalance 97 = .ok (.ireturn, 1) := by decide +kernel
set_option maxRecDepth 20000 in
theorem ggX7_bears_X0_settle : GoodIn wsX7_bears wsX0_settle := goodIn_r _ [7, 8, 9, 10, 11, 12, 13, 14, 15, 6, 16, 17, 18, 19, 20, 21, 22, 23, 24, 25, 26, 27, 28, 29, 30, 31, 32, 33, 34, 35, 36, 37, 38, 39, 40, 41, 42, 43, 44, 45, 46, 47, 48, 49, 50, 51, 52, 53, 54, 55, 56, 124, 125, 126, 127, 128, 129, 130, 131, 132, 133, 134, 135, 136, 137, 138, 139, 140, 141, 142] (by decide +kernel) (by decide +kernel)
set_option maxRecDepth 20000 in
theorem gX7_bears_X0_settle : GoodIn wsX7_bears (wsV RX7 159 RX0 yX0_settle wsX0_settle) := goodIn_app (goodIn_of _ (by decide +kernel)) ggX7_bears_X0_settle
set_option maxRecDepth 20000 in
theorem ggX7_bears_X0_kindNumber : GoodIn wsX7_bears wsX0_kindNumber := goodIn_r _ [60, 9, 8, 11, 61, 62, 63, 64, 65, 66, 67, 68, 69, 70, 71, 124, 125, 126, 127, 128, 129, 130, 131, 132] (by decide +kernel) (by decide +kernel)
set_option maxRecDepth 20000 in
theorem gX7_bears_X0_kindNumber : GoodIn wsX7_bears (wsV RX7 253 RX0 yX0_kindNumber wsX0_kindNumber) := goodIn_app (goodIn_of _ (by decide +kernel)) ggX7_bears_X0_kindNumber
set_option maxRecDepth 20000 in
theorem ggX7_bears_X5_prepare : GoodIn wsX7_bears wsX5_prepare := goodIn_r _ [76, 77, 78, 79, 80, 81, 82, 83, 39, 40, 41, 84, 85, 86, 75, 87, 88, 89, 90, 91, 92, 93, 94, 95, 96, 97, 98, 99, 100, 101, 102, 103, 104, 105, 106, 107, 108, 109, 110, 55, 56, 143, 144, 145, 146, 147, 148, 149, 133, 134, 135, 136, 137, 138, 139, 140, 141, 142, 124, 125, 126, 127, 128, 129, 130, 131, 132] (by decide +kernel) (by decide +kernel)
set_option maxRecDepth 20000 in
theorem gX7_bears_X5_prepare : GoodIn wsX7_bears (wsV RX7 283 RX5 yX5_prepare wsX5_prepare) := goodIn_app (goodIn_of _ (by decide +kernel)) ggX7_bears_X5_prepare
set_option maxRecDepth 20000 in
theorem ggX7_bears_X5_bear : GoodIn wsX7_bears wsX5_bear := goodIn_r _ [114, 101, 80, 89, 115, 91, 78, 79, 116, 90, 143, 144, 145, 146, 147, 148, 149, 124, 125, 126, 127, 128, 129, 130, 131, 132, 133, 134, 135, 136, 137, 138, 139, 140, 141, 142] (by decide +kernel) (by decide +kernel)
set_option maxRecDepth 20000 in
theorem gX7_bears_X5_bear : GoodIn wsX7_bears (wsV RX7 245 RX5 yX5_bear wsX5_bear) := goodIn_app (goodIn_of _ (by decide +kernel)) ggX7_bears_X5_bear
theorem dX7_bears_0 : decode cX7_bears 0 = .ok (.aload_n 0, 1) := by decide +kernel
theorem dX7_bears_1 : decode cX7_bears 1 = .ok (.getfield 21, 3) := by decide +kernel
theorem dX7_bears_4 : decode cX7_bears 4 = .ok (.iload_n 1, 1) := by decide +kernel
theorem dX7_bears_5 : decode cX7_bears 5 = .ok (.invokevirtual 159, 3) := by decide +kernel
theorem dX7_bears_8 : decode cX7_bears 8 = .ok (.aload_n 0, 1) := by decide +kernel
theorem dX7_bears_9 : decode cX7_bears 9 = .ok (.getfield 21, 3) := by decide +kernel
theorem dX7_bears_12 : decode cX7_bears 12 = .ok (.invokevirtual 253, 3) := by decide +kernel
theorem dX7_bears_15 : decode cX7_bears 15 = .ok (.istore_n 3, 1) := by decide +kernel
theorem dX7_bears_16 : decode cX7_bears 16 = .ok (.iload_n 3, 1) := by decide +kernel
theorem dX7_bears_17 : decode cX7_bears 17 = .ok (.ifCond .eq 8, 3) := by decide +kernel
theorem dX7_bears_20 : decode cX7_bears 20 = .ok (.iload_n 3, 1) := by decide +kernel
theorem dX7_bears_21 : decode cX7_bears 21 = .ok (.iconst 4, 1) := by decide +kernel
theorem dX7_bears_22 : decode cX7_bears 22 = .ok (.if_icmp .ne 5, 3) := by decide +kernel
theorem dX7_bears_25 : decode cX7_bears 25 = .ok (.iconst 0, 1) := by decide +kernel
theorem dX7_bears_26 : decode cX7_bears 26 = .ok (.ireturn, 1) := by decide +kernel
theorem dX7_bears_27 : decode cX7_bears 27 = .ok (.aload_n 0, 1) := by decide +kernel
theorem dX7_bears_28 : decode cX7_bears 28 = .ok (.getfield 30, 3) := by decide +kernel
theorem dX7_bears_31 : decode cX7_bears 31 = .ok (.invokevirtual 283, 3) := by decide +kernel
theorem dX7_bears_34 : decode cX7_bears 34 = .ok (.aload_n 0, 1) := by decide +kernel
theorem dX7_bears_35 : decode cX7_bears 35 = .ok (.getfield 30, 3) := by decide +kernel
theorem dX7_bears_38 : decode cX7_bears 38 = .ok (.aload_n 2, 1) := by decide +kernel
theorem dX7_bears_39 : decode cX7_bears 39 = .ok (.invokevirtual 245, 3) := by decide +kernel
theorem dX7_bears_42 : decode cX7_bears 42 = .ok (.iconst 1, 1) := by decide +kernel
theorem dX7_bears_43 : decode cX7_bears 43 = .ok (.ireturn, 1) := by decide +kernel
set_option maxRecDepth 20000 in
theorem ggX7_told_X2_reduce : GoodIn wsX7_told wsX2_reduce := goodIn_r _ [8, 9, 10, 11, 12, 13, 14, 15, 16, 7, 17, 18, 19, 20, 28, 29] (by decide +kernel) (by decide +kernel)
set_option maxRecDepth 20000 in
theorem gX7_told_X2_reduce : GoodIn wsX7_told (wsV RX7 286 RX2 yX2_reduce wsX2_reduce) := goodIn_app (goodIn_of _ (by decide +kernel)) ggX7_told_X2_reduce
theorem dX7_told_0 : decode cX7_told 0 = .ok (.aload_n 0, 1) := by decide +kernel
theorem dX7_told_1 : decode cX7_told 1 = .ok (.getfield 58, 3) := by decide +kernel
theorem dX7_told_4 : decode cX7_told 4 = .ok (.lload_n 1, 1) := by decide +kernel
theorem dX7_told_5 : decode cX7_told 5 = .ok (.lload_n 3, 1) := by decide +kernel
theorem dX7_told_6 : decode cX7_told 6 = .ok (.invokevirtual 286, 3) := by decide +kernel
theorem dX7_told_9 : decode cX7_told 9 = .ok (.iload 5, 2) := by decide +kernel
theorem dX7_told_11 : decode cX7_told 11 = .ok (.ifCond .eq 13, 3) := by decide +kernel
theorem dX7_told_14 : decode cX7_told 14 = .ok (.aload_n 0, 1) := by decide +kernel
theorem dX7_told_15 : decode cX7_told 15 = .ok (.getfield 58, 3) := by decide +kernel
theorem dX7_told_18 : decode cX7_told 18 = .ok (.getfield 290, 3) := by decide +kernel
theorem dX7_told_21 : decode cX7_told 21 = .ok (.goto 10, 3) := by decide +kernel
theorem dX7_told_24 : decode cX7_told 24 = .ok (.aload_n 0, 1) := by decide +kernel
theorem dX7_told_25 : decode cX7_told 25 = .ok (.getfield 58, 3) := by decide +kernel
theorem dX7_told_28 : decode cX7_told 28 = .ok (.getfield 291, 3) := by decide +kernel
theorem dX7_told_31 : decode cX7_told 31 = .ok (.lreturn, 1) := by decide +kernel
set_option maxRecDepth 20000 in
theorem ggX7_toldPull_X5_overOf : GoodIn wsX7_toldPull wsX5_overOf := goodIn_r _ [7, 8, 9, 10, 11, 12, 6, 13, 14, 15, 16, 17, 18, 19, 20, 21, 22, 23, 24, 25, 26, 27, 56, 57, 58, 59, 60, 61, 62, 63, 64, 65, 66, 67, 68, 69, 70, 71, 72, 73, 74, 75, 76, 77, 78, 79, 80, 81] (by decide +kernel) (by decide +kernel)
set_option maxRecDepth 20000 in
theorem gX7_toldPull_X5_overOf : GoodIn wsX7_toldPull (wsV RX7 199 RX5 yX5_overOf wsX5_overOf) := goodIn_app (goodIn_of _ (by decide +kernel)) ggX7_toldPull_X5_overOf
set_option maxRecDepth 20000 in
theorem ggX7_toldPull_X7_told : GoodIn wsX7_toldPull wsX7_told := goodIn_r _ [31, 32, 33, 34, 35, 36, 37, 38, 39, 40, 41, 42, 43, 44, 45, 46, 47, 48, 20, 21, 22, 49, 50, 51, 52, 53, 54, 55, 82, 83] (by decide +kernel) (by decide +kernel)
set_option maxRecDepth 20000 in
theorem gX7_toldPull_X7_told : GoodIn wsX7_toldPull (wsV RX7 185 RX7 yX7_told wsX7_told) := goodIn_app (goodIn_of _ (by decide +kernel)) ggX7_toldPull_X7_told
theorem dX7_toldPull_0 : decode cX7_toldPull 0 = .ok (.aload_n 0, 1) := by decide +kernel
theorem dX7_toldPull_1 : decode cX7_toldPull 1 = .ok (.aload_n 0, 1) := by decide +kernel
theorem dX7_toldPull_2 : decode cX7_toldPull 2 = .ok (.getfield 30, 3) := by decide +kernel
theorem dX7_toldPull_5 : decode cX7_toldPull 5 = .ok (.iload_n 1, 1) := by decide +kernel
theorem dX7_toldPull_6 : decode cX7_toldPull 6 = .ok (.invokevirtual 199, 3) := by decide +kernel
theorem dX7_toldPull_9 : decode cX7_toldPull 9 = .ok (.aload_n 0, 1) := by decide +kernel
theorem dX7_toldPull_10 : decode cX7_toldPull 10 = .ok (.getfield 30, 3) := by decide +kernel
theorem dX7_toldPull_13 : decode cX7_toldPull 13 = .ok (.getfield 192, 3) := by decide +kernel
theorem dX7_toldPull_16 : decode cX7_toldPull 16 = .ok (.iload_n 2, 1) := by decide +kernel
theorem dX7_toldPull_17 : decode cX7_toldPull 17 = .ok (.invokevirtual 185, 3) := by decide +kernel
theorem dX7_toldPull_20 : decode cX7_toldPull 20 = .ok (.lreturn, 1) := by decide +kernel
set_option maxRecDepth 20000 in
theorem ggX7_isPainted_X5_overOf : GoodIn wsX7_isPainted wsX5_overOf := goodIn_r _ [16, 17, 18, 19, 20, 21, 15, 22, 23, 24, 25, 26, 27, 28, 29, 30, 31, 32, 33, 34, 35, 36, 55, 56, 57, 58, 59, 60, 61, 64, 65, 66, 67, 68, 69, 70, 71, 72, 73, 74, 75, 76, 77, 78, 79, 80, 81, 82] (by decide +kernel) (by decide +kernel)
set_option maxRecDepth 20000 in
theorem gX7_isPainted_X5_overOf : GoodIn wsX7_isPainted (wsV RX7 199 RX5 yX5_overOf wsX5_overOf) := goodIn_app (goodIn_of _ (by decide +kernel)) ggX7_isPainted_X5_overOf
set_option maxRecDepth 20000 in
theorem ggX7_isPainted_X2_reduce : GoodIn wsX7_isPainted wsX2_reduce := goodIn_r _ [41, 42, 6, 7, 8, 43, 44, 45, 46, 40, 47, 29, 30, 31, 62, 63] (by decide +kernel) (by decide +kernel)
set_option maxRecDepth 20000 in
theorem gX7_isPainted_X2_reduce : GoodIn wsX7_isPainted (wsV RX7 286 RX2 yX2_reduce wsX2_reduce) := goodIn_app (goodIn_of _ (by decide +kernel)) ggX7_isPainted_X2_reduce
theorem dX7_isPainted_0 : decode cX7_isPainted 0 = .ok (.aload_n 0, 1) := by decide +kernel
theorem dX7_isPainted_1 : decode cX7_isPainted 1 = .ok (.getfield 58, 3) := by decide +kernel
theorem dX7_isPainted_4 : decode cX7_isPainted 4 = .ok (.aload_n 0, 1) := by decide +kernel
theorem dX7_isPainted_5 : decode cX7_isPainted 5 = .ok (.getfield 30, 3) := by decide +kernel
theorem dX7_isPainted_8 : decode cX7_isPainted 8 = .ok (.iload_n 1, 1) := by decide +kernel
theorem dX7_isPainted_9 : decode cX7_isPainted 9 = .ok (.invokevirtual 199, 3) := by decide +kernel
theorem dX7_isPainted_12 : decode cX7_isPainted 12 = .ok (.aload_n 0, 1) := by decide +kernel
theorem dX7_isPainted_13 : decode cX7_isPainted 13 = .ok (.getfield 30, 3) := by decide +kernel
theorem dX7_isPainted_16 : decode cX7_isPainted 16 = .ok (.getfield 192, 3) := by decide +kernel
theorem dX7_isPainted_19 : decode cX7_isPainted 19 = .ok (.invokevirtual 286, 3) := by decide +kernel
theorem dX7_isPainted_22 : decode cX7_isPainted 22 = .ok (.iload_n 2, 1) := by decide +kernel
theorem dX7_isPainted_23 : decode cX7_isPainted 23 = .ok (.tableswitch 79 (-1) 1 #[43, 61, 25], 25) := by decide +kernel
theorem dX7_isPainted_48 : decode cX7_isPainted 48 = .ok (.aload_n 0, 1) := by decide +kernel
theorem dX7_isPainted_49 : decode cX7_isPainted 49 = .ok (.getfield 58, 3) := by decide +kernel
theorem dX7_isPainted_52 : decode cX7_isPainted 52 = .ok (.getfield 291, 3) := by decide +kernel
theorem dX7_isPainted_55 : decode cX7_isPainted 55 = .ok (.lconst 0, 1) := by decide +kernel
theorem dX7_isPainted_56 : decode cX7_isPainted 56 = .ok (.lcmp, 1) := by decide +kernel
theorem dX7_isPainted_57 : decode cX7_isPainted 57 = .ok (.ifCond .le 7, 3) := by decide +kernel
theorem dX7_isPainted_60 : decode cX7_isPainted 60 = .ok (.iconst 1, 1) := by decide +kernel
theorem dX7_isPainted_61 : decode cX7_isPainted 61 = .ok (.goto 4, 3) := by decide +kernel
theorem dX7_isPainted_64 : decode cX7_isPainted 64 = .ok (.iconst 0, 1) := by decide +kernel
theorem dX7_isPainted_65 : decode cX7_isPainted 65 = .ok (.ireturn, 1) := by decide +kernel
theorem dX7_isPainted_66 : decode cX7_isPainted 66 = .ok (.aload_n 0, 1) := by decide +kernel
theorem dX7_isPainted_67 : decode cX7_isPainted 67 = .ok (.getfield 58, 3) := by decide +kernel
theorem dX7_isPainted_70 : decode cX7_isPainted 70 = .ok (.getfield 291, 3) := by decide +kernel
theorem dX7_isPainted_73 : decode cX7_isPainted 73 = .ok (.lconst 0, 1) := by decide +kernel
theorem dX7_isPainted_74 : decode cX7_isPainted 74 = .ok (.lcmp, 1) := by decide +kernel
theorem dX7_isPainted_75 : decode cX7_isPainted 75 = .ok (.ifCond .ge 7, 3) := by decide +kernel
theorem dX7_isPainted_78 : decode cX7_isPainted 78 = .ok (.iconst 1, 1) := by decide +kernel
theorem dX7_isPainted_79 : decode cX7_isPainted 79 = .ok (.goto 4, 3) := by decide +kernel
theorem dX7_isPainted_82 : decode cX7_isPainted 82 = .ok (.iconst 0, 1) := by decide +kernel
theorem dX7_isPainted_83 : decode cX7_isPainted 83 = .ok (.ireturn, 1) := by decide +kernel
theorem dX7_isPainted_84 : decode cX7_isPainted 84 = .ok (.aload_n 0, 1) := by decide +kernel
theorem dX7_isPainted_85 : decode cX7_isPainted 85 = .ok (.getfield 58, 3) := by decide +kernel
theorem dX7_isPainted_88 : decode cX7_isPainted 88 = .ok (.getfield 291, 3) := by decide +kernel
theorem dX7_isPainted_91 : decode cX7_isPainted 91 = .ok (.lconst 0, 1) := by decide +kernel
theorem dX7_isPainted_92 : decode cX7_isPainted 92 = .ok (.lcmp, 1) := by decide +kernel
theorem dX7_isPainted_93 : decode cX7_isPainted 93 = .ok (.ifCond .ne 7, 3) := by decide +kernel
theorem dX7_isPainted_96 : decode cX7_isPainted 96 = .ok (.iconst 1, 1) := by decide +kernel
theorem dX7_isPainted_97 : decode cX7_isPainted 97 = .ok (.goto 4, 3) := by decide +kernel
theorem dX7_isPainted_100 : decode cX7_isPainted 100 = .ok (.iconst 0, 1) := by decide +kernel
theorem dX7_isPainted_101 : decode cX7_isPainted 101 = .ok (.ireturn, 1) := by decide +kernel
theorem dX7_isPainted_102 : decode cX7_isPainted 102 = .ok (.aload_n 0, 1) := by decide +kernel
theorem dX7_isPainted_103 : decode cX7_isPainted 103 = .ok (.getfield 58, 3) := by decide +kernel
theorem dX7_isPainted_106 : decode cX7_isPainted 106 = .ok (.getfield 291, 3) := by decide +kernel
theorem dX7_isPainted_109 : decode cX7_isPainted 109 = .ok (.invokestatic 249, 3) := by decide +kernel
theorem dX7_isPainted_112 : decode cX7_isPainted 112 = .ok (.aload_n 0, 1) := by decide +kernel
theorem dX7_isPainted_113 : decode cX7_isPainted 113 = .ok (.getfield 17, 3) := by decide +kernel
theorem dX7_isPainted_116 : decode cX7_isPainted 116 = .ok (.getfield 100, 3) := by decide +kernel
theorem dX7_isPainted_119 : decode cX7_isPainted 119 = .ok (.iload_n 1, 1) := by decide +kernel
theorem dX7_isPainted_120 : decode cX7_isPainted 120 = .ok (.iaload, 1) := by decide +kernel
theorem dX7_isPainted_121 : decode cX7_isPainted 121 = .ok (.i2l, 1) := by decide +kernel
theorem dX7_isPainted_122 : decode cX7_isPainted 122 = .ok (.aload_n 0, 1) := by decide +kernel
theorem dX7_isPainted_123 : decode cX7_isPainted 123 = .ok (.getfield 58, 3) := by decide +kernel
theorem dX7_isPainted_126 : decode cX7_isPainted 126 = .ok (.getfield 290, 3) := by decide +kernel
theorem dX7_isPainted_129 : decode cX7_isPainted 129 = .ok (.lmul, 1) := by decide +kernel
theorem dX7_isPainted_130 : decode cX7_isPainted 130 = .ok (.lcmp, 1) := by decide +kernel
theorem dX7_isPainted_131 : decode cX7_isPainted 131 = .ok (.ifCond .le 7, 3) := by decide +kernel
theorem dX7_isPainted_134 : decode cX7_isPainted 134 = .ok (.iconst 1, 1) := by decide +kernel
theorem dX7_isPainted_135 : decode cX7_isPainted 135 = .ok (.goto 4, 3) := by decide +kernel
theorem dX7_isPainted_138 : decode cX7_isPainted 138 = .ok (.iconst 0, 1) := by decide +kernel
theorem dX7_isPainted_139 : decode cX7_isPainted 139 = .ok (.ireturn, 1) := by decide +kernel
set_option maxRecDepth 20000 in
theorem ggX7_timesOf_X5_overOf : GoodIn wsX7_timesOf wsX5_overOf := goodIn_r _ [17, 18, 19, 20, 21, 22, 16, 23, 24, 25, 26, 27, 28, 29, 30, 31, 32, 33, 34, 35, 36, 37, 57, 58, 59, 60, 61, 62, 63, 66, 67, 68, 69, 70, 71, 72, 73, 74, 75, 76, 77, 78, 79, 80, 81, 82, 83, 84] (by decide +kernel) (by decide +kernel)
set_option maxRecDepth 20000 in
theorem gX7_timesOf_X5_overOf : GoodIn wsX7_timesOf (wsV RX7 199 RX5 yX5_overOf wsX5_overOf) := goodIn_app (goodIn_of _ (by decide +kernel)) ggX7_timesOf_X5_overOf
set_option maxRecDepth 20000 in
theorem ggX7_timesOf_X2_reduce : GoodIn wsX7_timesOf wsX2_reduce := goodIn_r _ [42, 43, 6, 7, 8, 44, 45, 46, 47, 41, 48, 30, 31, 32, 64, 65] (by decide +kernel) (by decide +kernel)
set_option maxRecDepth 20000 in
theorem gX7_timesOf_X2_reduce : GoodIn wsX7_timesOf (wsV RX7 286 RX2 yX2_reduce wsX2_reduce) := goodIn_app (goodIn_of _ (by decide +kernel)) ggX7_timesOf_X2_reduce
set_option maxRecDepth 20000 in
theorem ggX7_timesOf_X7_quotient : GoodIn wsX7_timesOf wsX7_quotient := goodIn_r _ [32] (by decide +kernel) (by decide +kernel)
set_option maxRecDepth 20000 in
theorem gX7_timesOf_X7_quotient : GoodIn wsX7_timesOf (va_wsS RX7 294 yX7_quotient wsX7_quotient) := goodIn_app (goodIn_of _ (by decide +kernel)) ggX7_timesOf_X7_quotient
theorem dX7_timesOf_0 : decode cX7_timesOf 0 = .ok (.aload_n 0, 1) := by decide +kernel
theorem dX7_timesOf_1 : decode cX7_timesOf 1 = .ok (.getfield 58, 3) := by decide +kernel
theorem dX7_timesOf_4 : decode cX7_timesOf 4 = .ok (.aload_n 0, 1) := by decide +kernel
theorem dX7_timesOf_5 : decode cX7_timesOf 5 = .ok (.getfield 30, 3) := by decide +kernel
theorem dX7_timesOf_8 : decode cX7_timesOf 8 = .ok (.iload_n 1, 1) := by decide +kernel
theorem dX7_timesOf_9 : decode cX7_timesOf 9 = .ok (.invokevirtual 199, 3) := by decide +kernel
theorem dX7_timesOf_12 : decode cX7_timesOf 12 = .ok (.aload_n 0, 1) := by decide +kernel
theorem dX7_timesOf_13 : decode cX7_timesOf 13 = .ok (.getfield 30, 3) := by decide +kernel
theorem dX7_timesOf_16 : decode cX7_timesOf 16 = .ok (.getfield 192, 3) := by decide +kernel
theorem dX7_timesOf_19 : decode cX7_timesOf 19 = .ok (.invokevirtual 286, 3) := by decide +kernel
theorem dX7_timesOf_22 : decode cX7_timesOf 22 = .ok (.aload_n 0, 1) := by decide +kernel
theorem dX7_timesOf_23 : decode cX7_timesOf 23 = .ok (.getfield 58, 3) := by decide +kernel
theorem dX7_timesOf_26 : decode cX7_timesOf 26 = .ok (.getfield 291, 3) := by decide +kernel
theorem dX7_timesOf_29 : decode cX7_timesOf 29 = .ok (.invokestatic 249, 3) := by decide +kernel
theorem dX7_timesOf_32 : decode cX7_timesOf 32 = .ok (.aload_n 0, 1) := by decide +kernel
theorem dX7_timesOf_33 : decode cX7_timesOf 33 = .ok (.getfield 58, 3) := by decide +kernel
theorem dX7_timesOf_36 : decode cX7_timesOf 36 = .ok (.getfield 290, 3) := by decide +kernel
theorem dX7_timesOf_39 : decode cX7_timesOf 39 = .ok (.ladd, 1) := by decide +kernel
theorem dX7_timesOf_40 : decode cX7_timesOf 40 = .ok (.lconst 1, 1) := by decide +kernel
theorem dX7_timesOf_41 : decode cX7_timesOf 41 = .ok (.lsub, 1) := by decide +kernel
theorem dX7_timesOf_42 : decode cX7_timesOf 42 = .ok (.aload_n 0, 1) := by decide +kernel
theorem dX7_timesOf_43 : decode cX7_timesOf 43 = .ok (.getfield 58, 3) := by decide +kernel
theorem dX7_timesOf_46 : decode cX7_timesOf 46 = .ok (.getfield 290, 3) := by decide +kernel
theorem dX7_timesOf_49 : decode cX7_timesOf 49 = .ok (.invokestatic 294, 3) := by decide +kernel
theorem dX7_timesOf_52 : decode cX7_timesOf 52 = .ok (.lstore_n 2, 1) := by decide +kernel
theorem dX7_timesOf_53 : decode cX7_timesOf 53 = .ok (.lload_n 2, 1) := by decide +kernel
theorem dX7_timesOf_54 : decode cX7_timesOf 54 = .ok (.lconst 0, 1) := by decide +kernel
theorem dX7_timesOf_55 : decode cX7_timesOf 55 = .ok (.lcmp, 1) := by decide +kernel
theorem dX7_timesOf_56 : decode cX7_timesOf 56 = .ok (.ifCond .ne 9, 3) := by decide +kernel
theorem dX7_timesOf_59 : decode cX7_timesOf 59 = .ok (.ldc2_w 226, 3) := by decide +kernel
theorem dX7_timesOf_62 : decode cX7_timesOf 62 = .ok (.goto 17, 3) := by decide +kernel
theorem dX7_timesOf_65 : decode cX7_timesOf 65 = .ok (.aload_n 0, 1) := by decide +kernel
theorem dX7_timesOf_66 : decode cX7_timesOf 66 = .ok (.getfield 17, 3) := by decide +kernel
theorem dX7_timesOf_69 : decode cX7_timesOf 69 = .ok (.getfield 100, 3) := by decide +kernel
theorem dX7_timesOf_72 : decode cX7_timesOf 72 = .ok (.iload_n 1, 1) := by decide +kernel
theorem dX7_timesOf_73 : decode cX7_timesOf 73 = .ok (.iaload, 1) := by decide +kernel
theorem dX7_timesOf_74 : decode cX7_timesOf 74 = .ok (.i2l, 1) := by decide +kernel
theorem dX7_timesOf_75 : decode cX7_timesOf 75 = .ok (.lload_n 2, 1) := by decide +kernel
theorem dX7_timesOf_76 : decode cX7_timesOf 76 = .ok (.invokestatic 294, 3) := by decide +kernel
theorem dX7_timesOf_79 : decode cX7_timesOf 79 = .ok (.lreturn, 1) := by decide +kernel
