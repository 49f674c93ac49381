theorem dX8_init_0 : decode cX8_init 0 = .ok (.aload_n 0, 1) := by decide +kernel
theorem dX8_init_1 : decode cX8_init 1 = .ok (.invokespecial 1, 3) := by decide +kernel
theorem dX8_init_4 : decode cX8_init 4 = .ok (.aload_n 0, 1) := by decide +kernel
theorem dX8_init_5 : decode cX8_init 5 = .ok (.bipush 6, 2) := by decide +kernel
theorem dX8_init_7 : decode cX8_init 7 = .ok (.newarray .int, 2) := by decide +kernel
theorem dX8_init_9 : decode cX8_init 9 = .ok (.putfield 7, 3) := by decide +kernel
theorem dX8_init_12 : decode cX8_init 12 = .ok (.aload_n 0, 1) := by decide +kernel
theorem dX8_init_13 : decode cX8_init 13 = .ok (.bipush 6, 2) := by decide +kernel
theorem dX8_init_15 : decode cX8_init 15 = .ok (.newarray .int, 2) := by decide +kernel
theorem dX8_init_17 : decode cX8_init 17 = .ok (.putfield 13, 3) := by decide +kernel
theorem dX8_init_20 : decode cX8_init 20 = .ok (.aload_n 0, 1) := by decide +kernel
theorem dX8_init_21 : decode cX8_init 21 = .ok (.bipush 6, 2) := by decide +kernel
theorem dX8_init_23 : decode cX8_init 23 = .ok (.newarray .int, 2) := by decide +kernel
theorem dX8_init_25 : decode cX8_init 25 = .ok (.putfield 16, 3) := by decide +kernel
theorem dX8_init_28 : decode cX8_init 28 = .ok (.aload_n 0, 1) := by decide +kernel
theorem dX8_init_29 : decode cX8_init 29 = .ok (.bipush 12, 2) := by decide +kernel
theorem dX8_init_31 : decode cX8_init 31 = .ok (.newarray .int, 2) := by decide +kernel
theorem dX8_init_33 : decode cX8_init 33 = .ok (.putfield 19, 3) := by decide +kernel
theorem dX8_init_36 : decode cX8_init 36 = .ok (.aload_n 0, 1) := by decide +kernel
theorem dX8_init_37 : decode cX8_init 37 = .ok (.bipush 11, 2) := by decide +kernel
theorem dX8_init_39 : decode cX8_init 39 = .ok (.newarray .int, 2) := by decide +kernel
theorem dX8_init_41 : decode cX8_init 41 = .ok (.putfield 22, 3) := by decide +kernel
theorem dX8_init_44 : decode cX8_init 44 = .ok (.aload_n 0, 1) := by decide +kernel
theorem dX8_init_45 : decode cX8_init 45 = .ok (.bipush 11, 2) := by decide +kernel
theorem dX8_init_47 : decode cX8_init 47 = .ok (.newarray .int, 2) := by decide +kernel
theorem dX8_init_49 : decode cX8_init 49 = .ok (.putfield 25, 3) := by decide +kernel
theorem dX8_init_52 : decode cX8_init 52 = .ok (.aload_n 0, 1) := by decide +kernel
theorem dX8_init_53 : decode cX8_init 53 = .ok (.bipush 11, 2) := by decide +kernel
theorem dX8_init_55 : decode cX8_init 55 = .ok (.newarray .int, 2) := by decide +kernel
theorem dX8_init_57 : decode cX8_init 57 = .ok (.putfield 28, 3) := by decide +kernel
theorem dX8_init_60 : decode cX8_init 60 = .ok (.aload_n 0, 1) := by decide +kernel
theorem dX8_init_61 : decode cX8_init 61 = .ok (.bipush 11, 2) := by decide +kernel
theorem dX8_init_63 : decode cX8_init 63 = .ok (.newarray .int, 2) := by decide +kernel
theorem dX8_init_65 : decode cX8_init 65 = .ok (.putfield 31, 3) := by decide +kernel
theorem dX8_init_68 : decode cX8_init 68 = .ok (.aload_n 0, 1) := by decide +kernel
theorem dX8_init_69 : decode cX8_init 69 = .ok (.bipush 6, 2) := by decide +kernel
theorem dX8_init_71 : decode cX8_init 71 = .ok (.newarray .int, 2) := by decide +kernel
theorem dX8_init_73 : decode cX8_init 73 = .ok (.putfield 34, 3) := by decide +kernel
theorem dX8_init_76 : decode cX8_init 76 = .ok (.aload_n 0, 1) := by decide +kernel
theorem dX8_init_77 : decode cX8_init 77 = .ok (.iconst 4, 1) := by decide +kernel
theorem dX8_init_78 : decode cX8_init 78 = .ok (.newarray .int, 2) := by decide +kernel
theorem dX8_init_80 : decode cX8_init 80 = .ok (.putfield 37, 3) := by decide +kernel
theorem dX8_init_83 : decode cX8_init 83 = .ok (.aload_n 0, 1) := by decide +kernel
theorem dX8_init_84 : decode cX8_init 84 = .ok (.bipush 12, 2) := by decide +kernel
theorem dX8_init_86 : decode cX8_init 86 = .ok (.newarray .int, 2) := by decide +kernel
theorem dX8_init_88 : decode cX8_init 88 = .ok (.putfield 40, 3) := by decide +kernel
theorem dX8_init_91 : decode cX8_init 91 = .ok (.aload_n 0, 1) := by decide +kernel
theorem dX8_init_92 : decode cX8_init 92 = .ok (.bipush 12, 2) := by decide +kernel
theorem dX8_init_94 : decode cX8_init 94 = .ok (.newarray .int, 2) := by decide +kernel
theorem dX8_init_96 : decode cX8_init 96 = .ok (.putfield 43, 3) := by decide +kernel
theorem dX8_init_99 : decode cX8_init 99 = .ok (.aload_n 0, 1) := by decide +kernel
theorem dX8_init_100 : decode cX8_init 100 = .ok (.sipush 144, 3) := by decide +kernel
theorem dX8_init_103 : decode cX8_init 103 = .ok (.newarray .long, 2) := by decide +kernel
theorem dX8_init_105 : decode cX8_init 105 = .ok (.putfield 46, 3) := by decide +kernel
theorem dX8_init_108 : decode cX8_init 108 = .ok (.aload_n 0, 1) := by decide +kernel
theorem dX8_init_109 : decode cX8_init 109 = .ok (.bipush 12, 2) := by decide +kernel
theorem dX8_init_111 : decode cX8_init 111 = .ok (.newarray .int, 2) := by decide +kernel
theorem dX8_init_113 : decode cX8_init 113 = .ok (.putfield 50, 3) := by decide +kernel
theorem dX8_init_116 : decode cX8_init 116 = .ok (.aload_n 0, 1) := by decide +kernel
theorem dX8_init_117 : decode cX8_init 117 = .ok (.bipush 11, 2) := by decide +kernel
theorem dX8_init_119 : decode cX8_init 119 = .ok (.newarray .long, 2) := by decide +kernel
theorem dX8_init_121 : decode cX8_init 121 = .ok (.putfield 53, 3) := by decide +kernel
theorem dX8_init_124 : decode cX8_init 124 = .ok (.aload_n 0, 1) := by decide +kernel
theorem dX8_init_125 : decode cX8_init 125 = .ok (.bipush 12, 2) := by decide +kernel
theorem dX8_init_127 : decode cX8_init 127 = .ok (.newarray .int, 2) := by decide +kernel
theorem dX8_init_129 : decode cX8_init 129 = .ok (.putfield 56, 3) := by decide +kernel
theorem dX8_init_132 : decode cX8_init 132 = .ok (.aload_n 0, 1) := by decide +kernel
theorem dX8_init_133 : decode cX8_init 133 = .ok (.bipush 11, 2) := by decide +kernel
theorem dX8_init_135 : decode cX8_init 135 = .ok (.newarray .long, 2) := by decide +kernel
theorem dX8_init_137 : decode cX8_init 137 = .ok (.putfield 59, 3) := by decide +kernel
theorem dX8_init_140 : decode cX8_init 140 = .ok (.aload_n 0, 1) := by decide +kernel
theorem dX8_init_141 : decode cX8_init 141 = .ok (.bipush 11, 2) := by decide +kernel
theorem dX8_init_143 : decode cX8_init 143 = .ok (.newarray .long, 2) := by decide +kernel
theorem dX8_init_145 : decode cX8_init 145 = .ok (.putfield 62, 3) := by decide +kernel
theorem dX8_init_148 : decode cX8_init 148 = .ok (.aload_n 0, 1) := by decide +kernel
theorem dX8_init_149 : decode cX8_init 149 = .ok (.bipush 11, 2) := by decide +kernel
theorem dX8_init_151 : decode cX8_init 151 = .ok (.newarray .long, 2) := by decide +kernel
theorem dX8_init_153 : decode cX8_init 153 = .ok (.putfield 65, 3) := by decide +kernel
theorem dX8_init_156 : decode cX8_init 156 = .ok (.aload_n 0, 1) := by decide +kernel
theorem dX8_init_157 : decode cX8_init 157 = .ok (.iconst 3, 1) := by decide +kernel
theorem dX8_init_158 : decode cX8_init 158 = .ok (.newarray .int, 2) := by decide +kernel
theorem dX8_init_160 : decode cX8_init 160 = .ok (.putfield 68, 3) := by decide +kernel
theorem dX8_init_163 : decode cX8_init 163 = .ok (.aload_n 0, 1) := by decide +kernel
theorem dX8_init_164 : decode cX8_init 164 = .ok (.bipush 12, 2) := by decide +kernel
theorem dX8_init_166 : decode cX8_init 166 = .ok (.newarray .long, 2) := by decide +kernel
theorem dX8_init_168 : decode cX8_init 168 = .ok (.putfield 71, 3) := by decide +kernel
theorem dX8_init_171 : decode cX8_init 171 = .ok (.aload_n 0, 1) := by decide +kernel
theorem dX8_init_172 : decode cX8_init 172 = .ok (.bipush 6, 2) := by decide +kernel
theorem dX8_init_174 : decode cX8_init 174 = .ok (.newarray .int, 2) := by decide +kernel
theorem dX8_init_176 : decode cX8_init 176 = .ok (.putfield 74, 3) := by decide +kernel
theorem dX8_init_179 : decode cX8_init 179 = .ok (.return_, 1) := by decide +kernel
theorem dX8_thrown_0 : decode cX8_thrown 0 = .ok (.aload_n 0, 1) := by decide +kernel
theorem dX8_thrown_1 : decode cX8_thrown 1 = .ok (.getfield 77, 3) := by decide +kernel
theorem dX8_thrown_4 : decode cX8_thrown 4 = .ok (.ireturn, 1) := by decide +kernel
theorem dX8_in_0 : decode cX8_in 0 = .ok (.lload_n 0, 1) := by decide +kernel
theorem dX8_in_1 : decode cX8_in 1 = .ok (.lload_n 2, 1) := by decide +kernel
theorem dX8_in_2 : decode cX8_in 2 = .ok (.lcmp, 1) := by decide +kernel
theorem dX8_in_3 : decode cX8_in 3 = .ok (.ifCond .lt 14, 3) := by decide +kernel
theorem dX8_in_6 : decode cX8_in 6 = .ok (.lload_n 0, 1) := by decide +kernel
theorem dX8_in_7 : decode cX8_in 7 = .ok (.lload 4, 2) := by decide +kernel
theorem dX8_in_9 : decode cX8_in 9 = .ok (.lcmp, 1) := by decide +kernel
theorem dX8_in_10 : decode cX8_in 10 = .ok (.ifCond .gt 7, 3) := by decide +kernel
theorem dX8_in_13 : decode cX8_in 13 = .ok (.iconst 1, 1) := by decide +kernel
theorem dX8_in_14 : decode cX8_in 14 = .ok (.goto 4, 3) := by decide +kernel
theorem dX8_in_17 : decode cX8_in 17 = .ok (.iconst 0, 1) := by decide +kernel
theorem dX8_in_18 : decode cX8_in 18 = .ok (.ireturn, 1) := by decide +kernel
theorem dX8_isOn_0 : decode cX8_isOn 0 = .ok (.iload_n 0, 1) := by decide +kernel
theorem dX8_isOn_1 : decode cX8_isOn 1 = .ok (.iload_n 1, 1) := by decide +kernel
theorem dX8_isOn_2 : decode cX8_isOn 2 = .ok (.ishr, 1) := by decide +kernel
theorem dX8_isOn_3 : decode cX8_isOn 3 = .ok (.iconst 1, 1) := by decide +kernel
theorem dX8_isOn_4 : decode cX8_isOn 4 = .ok (.iand, 1) := by decide +kernel
theorem dX8_isOn_5 : decode cX8_isOn 5 = .ok (.iconst 1, 1) := by decide +kernel
theorem dX8_isOn_6 : decode cX8_isOn 6 = .ok (.if_icmp .ne 7, 3) := by decide +kernel
theorem dX8_isOn_9 : decode cX8_isOn 9 = .ok (.iconst 1, 1) := by decide +kernel
theorem dX8_isOn_10 : decode cX8_isOn 10 = .ok (.goto 4, 3) := by decide +kernel
theorem dX8_isOn_13 : decode cX8_isOn 13 = .ok (.iconst 0, 1) := by decide +kernel
theorem dX8_isOn_14 : decode cX8_isOn 14 = .ok (.ireturn, 1) := by decide +kernel
theorem dX8_bits_0 : decode cX8_bits 0 = .ok (.iconst 0, 1) := by decide +kernel
theorem dX8_bits_1 : decode cX8_bits 1 = .ok (.istore_n 1, 1) := by decide +kernel
theorem dX8_bits_2 : decode cX8_bits 2 = .ok (.iconst 0, 1) := by decide +kernel
theorem dX8_bits_3 : decode cX8_bits 3 = .ok (.istore_n 2, 1) := by decide +kernel
theorem dX8_bits_4 : decode cX8_bits 4 = .ok (.iload_n 2, 1) := by decide +kernel
theorem dX8_bits_5 : decode cX8_bits 5 = .ok (.bipush 12, 2) := by decide +kernel
theorem dX8_bits_7 : decode cX8_bits 7 = .ok (.if_icmp .ge 17, 3) := by decide +kernel
theorem dX8_bits_10 : decode cX8_bits 10 = .ok (.iload_n 1, 1) := by decide +kernel
theorem dX8_bits_11 : decode cX8_bits 11 = .ok (.iload_n 0, 1) := by decide +kernel
theorem dX8_bits_12 : decode cX8_bits 12 = .ok (.iload_n 2, 1) := by decide +kernel
theorem dX8_bits_13 : decode cX8_bits 13 = .ok (.ishr, 1) := by decide +kernel
theorem dX8_bits_14 : decode cX8_bits 14 = .ok (.iconst 1, 1) := by decide +kernel
theorem dX8_bits_15 : decode cX8_bits 15 = .ok (.iand, 1) := by decide +kernel
theorem dX8_bits_16 : decode cX8_bits 16 = .ok (.iadd, 1) := by decide +kernel
theorem dX8_bits_17 : decode cX8_bits 17 = .ok (.istore_n 1, 1) := by decide +kernel
theorem dX8_bits_18 : decode cX8_bits 18 = .ok (.iinc 2 1, 3) := by decide +kernel
theorem dX8_bits_21 : decode cX8_bits 21 = .ok (.goto (-17), 3) := by decide +kernel
theorem dX8_bits_24 : decode cX8_bits 24 = .ok (.iload_n 1, 1) := by decide +kernel
theorem dX8_bits_25 : decode cX8_bits 25 = .ok (.ireturn, 1) := by decide +kernel
theorem dX8_abs_0 : decode cX8_abs 0 = .ok (.lload_n 0, 1) := by decide +kernel
theorem dX8_abs_1 : decode cX8_abs 1 = .ok (.lconst 0, 1) := by decide +kernel
theorem dX8_abs_2 : decode cX8_abs 2 = .ok (.lcmp, 1) := by decide +kernel
theorem dX8_abs_3 : decode cX8_abs 3 = .ok (.ifCond .ge 8, 3) := by decide +kernel
theorem dX8_abs_6 : decode cX8_abs 6 = .ok (.lload_n 0, 1) := by decide +kernel
theorem dX8_abs_7 : decode cX8_abs 7 = .ok (.lneg, 1) := by decide +kernel
theorem dX8_abs_8 : decode cX8_abs 8 = .ok (.goto 4, 3) := by decide +kernel
theorem dX8_abs_11 : decode cX8_abs 11 = .ok (.lload_n 0, 1) := by decide +kernel
theorem dX8_abs_12 : decode cX8_abs 12 = .ok (.lreturn, 1) := by decide +kernel
set_option maxRecDepth 20000 in
theorem ggX8_isPin_X8_in : GoodIn wsX8_isPin wsX8_in := goodIn_r _ [5] (by decide +kernel) (by decide +kernel)
set_option maxRecDepth 20000 in
theorem gX8_isPin_X8_in : GoodIn wsX8_isPin (va_wsS RX8 84 yX8_in wsX8_in) := goodIn_app (goodIn_of _ (by decide +kernel)) ggX8_isPin_X8_in
theorem dX8_isPin_0 : decode cX8_isPin 0 = .ok (.iload_n 1, 1) := by decide +kernel
theorem dX8_isPin_1 : decode cX8_isPin 1 = .ok (.i2l, 1) := by decide +kernel
theorem dX8_isPin_2 : decode cX8_isPin 2 = .ok (.lconst 0, 1) := by decide +kernel
theorem dX8_isPin_3 : decode cX8_isPin 3 = .ok (.aload_n 0, 1) := by decide +kernel
theorem dX8_isPin_4 : decode cX8_isPin 4 = .ok (.getfield 81, 3) := by decide +kernel
theorem dX8_isPin_7 : decode cX8_isPin 7 = .ok (.iconst 1, 1) := by decide +kernel
theorem dX8_isPin_8 : decode cX8_isPin 8 = .ok (.isub, 1) := by decide +kernel
theorem dX8_isPin_9 : decode cX8_isPin 9 = .ok (.i2l, 1) := by decide +kernel
theorem dX8_isPin_10 : decode cX8_isPin 10 = .ok (.invokestatic 84, 3) := by decide +kernel
theorem dX8_isPin_13 : decode cX8_isPin 13 = .ok (.ireturn, 1) := by decide +kernel
set_option maxRecDepth 20000 in
theorem ggX8_isBar_X8_in : GoodIn wsX8_isBar wsX8_in := goodIn_r _ [5] (by decide +kernel) (by decide +kernel)
set_option maxRecDepth 20000 in
theorem gX8_isBar_X8_in : GoodIn wsX8_isBar (va_wsS RX8 84 yX8_in wsX8_in) := goodIn_app (goodIn_of _ (by decide +kernel)) ggX8_isBar_X8_in
theorem dX8_isBar_0 : decode cX8_isBar 0 = .ok (.iload_n 1, 1) := by decide +kernel
theorem dX8_isBar_1 : decode cX8_isBar 1 = .ok (.i2l, 1) := by decide +kernel
theorem dX8_isBar_2 : decode cX8_isBar 2 = .ok (.lconst 0, 1) := by decide +kernel
theorem dX8_isBar_3 : decode cX8_isBar 3 = .ok (.aload_n 0, 1) := by decide +kernel
theorem dX8_isBar_4 : decode cX8_isBar 4 = .ok (.getfield 88, 3) := by decide +kernel
theorem dX8_isBar_7 : decode cX8_isBar 7 = .ok (.iconst 1, 1) := by decide +kernel
theorem dX8_isBar_8 : decode cX8_isBar 8 = .ok (.isub, 1) := by decide +kernel
theorem dX8_isBar_9 : decode cX8_isBar 9 = .ok (.i2l, 1) := by decide +kernel
theorem dX8_isBar_10 : decode cX8_isBar 10 = .ok (.invokestatic 84, 3) := by decide +kernel
theorem dX8_isBar_13 : decode cX8_isBar 13 = .ok (.ireturn, 1) := by decide +kernel
set_option maxRecDepth 20000 in
theorem ggX8_isPlace_X8_in : GoodIn wsX8_isPlace wsX8_in := goodIn_r _ [6] (by decide +kernel) (by decide +kernel)
set_option maxRecDepth 20000 in
theorem gX8_isPlace_X8_in : GoodIn wsX8_isPlace (va_wsS RX8 84 yX8_in wsX8_in) := goodIn_app (goodIn_of _ (by decide +kernel)) ggX8_isPlace_X8_in
theorem dX8_isPlace_0 : decode cX8_isPlace 0 = .ok (.iload_n 0, 1) := by decide +kernel
theorem dX8_isPlace_1 : decode cX8_isPlace 1 = .ok (.i2l, 1) := by decide +kernel
theorem dX8_isPlace_2 : decode cX8_isPlace 2 = .ok (.lconst 0, 1) := by decide +kernel
theorem dX8_isPlace_3 : decode cX8_isPlace 3 = .ok (.ldc2_w 91, 3) := by decide +kernel
theorem dX8_isPlace_6 : decode cX8_isPlace 6 = .ok (.invokestatic 84, 3) := by decide +kernel
theorem dX8_isPlace_9 : decode cX8_isPlace 9 = .ok (.ifCond .eq 19, 3) := by decide +kernel
theorem dX8_isPlace_12 : decode cX8_isPlace 12 = .ok (.iload_n 1, 1) := by decide +kernel
theorem dX8_isPlace_13 : decode cX8_isPlace 13 = .ok (.i2l, 1) := by decide +kernel
theorem dX8_isPlace_14 : decode cX8_isPlace 14 = .ok (.lconst 0, 1) := by decide +kernel
theorem dX8_isPlace_15 : decode cX8_isPlace 15 = .ok (.ldc2_w 93, 3) := by decide +kernel
theorem dX8_isPlace_18 : decode cX8_isPlace 18 = .ok (.invokestatic 84, 3) := by decide +kernel
theorem dX8_isPlace_21 : decode cX8_isPlace 21 = .ok (.ifCond .eq 7, 3) := by decide +kernel
theorem dX8_isPlace_24 : decode cX8_isPlace 24 = .ok (.iconst 1, 1) := by decide +kernel
theorem dX8_isPlace_25 : decode cX8_isPlace 25 = .ok (.goto 4, 3) := by decide +kernel
theorem dX8_isPlace_28 : decode cX8_isPlace 28 = .ok (.iconst 0, 1) := by decide +kernel
theorem dX8_isPlace_29 : decode cX8_isPlace 29 = .ok (.ireturn, 1) := by decide +kernel
theorem dX8_pinAt_0 : decode cX8_pinAt 0 = .ok (.iconst 0, 1) := by decide +kernel
theorem dX8_pinAt_1 : decode cX8_pinAt 1 = .ok (.istore_n 3, 1) := by decide +kernel
theorem dX8_pinAt_2 : decode cX8_pinAt 2 = .ok (.iload_n 3, 1) := by decide +kernel
theorem dX8_pinAt_3 : decode cX8_pinAt 3 = .ok (.aload_n 0, 1) := by decide +kernel
theorem dX8_pinAt_4 : decode cX8_pinAt 4 = .ok (.getfield 81, 3) := by decide +kernel
theorem dX8_pinAt_7 : decode cX8_pinAt 7 = .ok (.if_icmp .ge 31, 3) := by decide +kernel
theorem dX8_pinAt_10 : decode cX8_pinAt 10 = .ok (.aload_n 0, 1) := by decide +kernel
theorem dX8_pinAt_11 : decode cX8_pinAt 11 = .ok (.getfield 7, 3) := by decide +kernel
theorem dX8_pinAt_14 : decode cX8_pinAt 14 = .ok (.iload_n 3, 1) := by decide +kernel
theorem dX8_pinAt_15 : decode cX8_pinAt 15 = .ok (.iaload, 1) := by decide +kernel
theorem dX8_pinAt_16 : decode cX8_pinAt 16 = .ok (.iload_n 1, 1) := by decide +kernel
theorem dX8_pinAt_17 : decode cX8_pinAt 17 = .ok (.if_icmp .ne 15, 3) := by decide +kernel
theorem dX8_pinAt_20 : decode cX8_pinAt 20 = .ok (.aload_n 0, 1) := by decide +kernel
theorem dX8_pinAt_21 : decode cX8_pinAt 21 = .ok (.getfield 13, 3) := by decide +kernel
theorem dX8_pinAt_24 : decode cX8_pinAt 24 = .ok (.iload_n 3, 1) := by decide +kernel
theorem dX8_pinAt_25 : decode cX8_pinAt 25 = .ok (.iaload, 1) := by decide +kernel
theorem dX8_pinAt_26 : decode cX8_pinAt 26 = .ok (.iload_n 2, 1) := by decide +kernel
theorem dX8_pinAt_27 : decode cX8_pinAt 27 = .ok (.if_icmp .ne 5, 3) := by decide +kernel
theorem dX8_pinAt_30 : decode cX8_pinAt 30 = .ok (.iload_n 3, 1) := by decide +kernel
theorem dX8_pinAt_31 : decode cX8_pinAt 31 = .ok (.ireturn, 1) := by decide +kernel
theorem dX8_pinAt_32 : decode cX8_pinAt 32 = .ok (.iinc 3 1, 3) := by decide +kernel
theorem dX8_pinAt_35 : decode cX8_pinAt 35 = .ok (.goto (-33), 3) := by decide +kernel
theorem dX8_pinAt_38 : decode cX8_pinAt 38 = .ok (.iconst (-1), 1) := by decide +kernel
theorem dX8_pinAt_39 : decode cX8_pinAt 39 = .ok (.ireturn, 1) := by decide +kernel
set_option maxRecDepth 20000 in
theorem ggX8_pin_X8_isPlace : GoodIn wsX8_pin wsX8_isPlace := goodIn_r _ [8, 9, 10, 11, 12, 7, 13] (by decide +kernel) (by decide +kernel)
set_option maxRecDepth 20000 in
theorem gX8_pin_X8_isPlace : GoodIn wsX8_pin (va_wsS RX8 95 yX8_isPlace wsX8_isPlace) := goodIn_app (goodIn_of _ (by decide +kernel)) ggX8_pin_X8_isPlace
set_option maxRecDepth 20000 in
theorem ggX8_pin_X8_pinAt : GoodIn wsX8_pin wsX8_pinAt := goodIn_r _ [17, 2, 3, 4, 18, 19, 20, 21, 22, 23, 24, 25, 26, 27, 28, 29, 30, 31, 32, 33, 34, 35, 36, 37, 38, 39, 40, 41, 42, 43, 44, 45, 46, 47, 48, 49, 50, 51, 52] (by decide +kernel) (by decide +kernel)
set_option maxRecDepth 20000 in
theorem gX8_pin_X8_pinAt : GoodIn wsX8_pin (wsV RX8 99 RX8 yX8_pinAt wsX8_pinAt) := goodIn_app (goodIn_of _ (by decide +kernel)) ggX8_pin_X8_pinAt
theorem dX8_pin_0 : decode cX8_pin 0 = .ok (.aload_n 0, 1) := by decide +kernel
theorem dX8_pin_1 : decode cX8_pin 1 = .ok (.iconst 0, 1) := by decide +kernel
theorem dX8_pin_2 : decode cX8_pin 2 = .ok (.putfield 77, 3) := by decide +kernel
theorem dX8_pin_5 : decode cX8_pin 5 = .ok (.aload_n 0, 1) := by decide +kernel
theorem dX8_pin_6 : decode cX8_pin 6 = .ok (.getfield 81, 3) := by decide +kernel
theorem dX8_pin_9 : decode cX8_pin 9 = .ok (.bipush 6, 2) := by decide +kernel
theorem dX8_pin_11 : decode cX8_pin 11 = .ok (.if_icmp .eq 21, 3) := by decide +kernel
theorem dX8_pin_14 : decode cX8_pin 14 = .ok (.iload_n 1, 1) := by decide +kernel
theorem dX8_pin_15 : decode cX8_pin 15 = .ok (.iload_n 2, 1) := by decide +kernel
theorem dX8_pin_16 : decode cX8_pin 16 = .ok (.invokestatic 95, 3) := by decide +kernel
theorem dX8_pin_19 : decode cX8_pin 19 = .ok (.ifCond .eq 13, 3) := by decide +kernel
theorem dX8_pin_22 : decode cX8_pin 22 = .ok (.aload_n 0, 1) := by decide +kernel
theorem dX8_pin_23 : decode cX8_pin 23 = .ok (.iload_n 1, 1) := by decide +kernel
theorem dX8_pin_24 : decode cX8_pin 24 = .ok (.iload_n 2, 1) := by decide +kernel
theorem dX8_pin_25 : decode cX8_pin 25 = .ok (.invokevirtual 99, 3) := by decide +kernel
theorem dX8_pin_28 : decode cX8_pin 28 = .ok (.iconst (-1), 1) := by decide +kernel
theorem dX8_pin_29 : decode cX8_pin 29 = .ok (.if_icmp .eq 5, 3) := by decide +kernel
theorem dX8_pin_32 : decode cX8_pin 32 = .ok (.iconst (-1), 1) := by decide +kernel
theorem dX8_pin_33 : decode cX8_pin 33 = .ok (.ireturn, 1) := by decide +kernel
theorem dX8_pin_34 : decode cX8_pin 34 = .ok (.aload_n 0, 1) := by decide +kernel
theorem dX8_pin_35 : decode cX8_pin 35 = .ok (.getfield 7, 3) := by decide +kernel
theorem dX8_pin_38 : decode cX8_pin 38 = .ok (.aload_n 0, 1) := by decide +kernel
theorem dX8_pin_39 : decode cX8_pin 39 = .ok (.getfield 81, 3) := by decide +kernel
theorem dX8_pin_42 : decode cX8_pin 42 = .ok (.iload_n 1, 1) := by decide +kernel
theorem dX8_pin_43 : decode cX8_pin 43 = .ok (.iastore, 1) := by decide +kernel
theorem dX8_pin_44 : decode cX8_pin 44 = .ok (.aload_n 0, 1) := by decide +kernel
theorem dX8_pin_45 : decode cX8_pin 45 = .ok (.getfield 13, 3) := by decide +kernel
theorem dX8_pin_48 : decode cX8_pin 48 = .ok (.aload_n 0, 1) := by decide +kernel
theorem dX8_pin_49 : decode cX8_pin 49 = .ok (.getfield 81, 3) := by decide +kernel
theorem dX8_pin_52 : decode cX8_pin 52 = .ok (.iload_n 2, 1) := by decide +kernel
theorem dX8_pin_53 : decode cX8_pin 53 = .ok (.iastore, 1) := by decide +kernel
theorem dX8_pin_54 : decode cX8_pin 54 = .ok (.aload_n 0, 1) := by decide +kernel
theorem dX8_pin_55 : decode cX8_pin 55 = .ok (.dup, 1) := by decide +kernel
theorem dX8_pin_56 : decode cX8_pin 56 = .ok (.getfield 81, 3) := by decide +kernel
theorem dX8_pin_59 : decode cX8_pin 59 = .ok (.iconst 1, 1) := by decide +kernel
theorem dX8_pin_60 : decode cX8_pin 60 = .ok (.iadd, 1) := by decide +kernel
theorem dX8_pin_61 : decode cX8_pin 61 = .ok (.putfield 81, 3) := by decide +kernel
theorem dX8_pin_64 : decode cX8_pin 64 = .ok (.aload_n 0, 1) := by decide +kernel
theorem dX8_pin_65 : decode cX8_pin 65 = .ok (.getfield 81, 3) := by decide +kernel
theorem dX8_pin_68 : decode cX8_pin 68 = .ok (.iconst 1, 1) := by decide +kernel
theorem dX8_pin_69 : decode cX8_pin 69 = .ok (.isub, 1) := by decide +kernel
theorem dX8_pin_70 : decode cX8_pin 70 = .ok (.ireturn, 1) := by decide +kernel
set_option maxRecDepth 20000 in
theorem ggX8_place_X8_isPin : GoodIn wsX8_place wsX8_isPin := goodIn_r _ [8, 9, 10, 11, 7, 12, 22, 23, 24, 25, 26, 27, 28, 29, 30, 31, 32, 33, 34, 35, 36, 37, 38, 39, 40, 41, 42, 43, 44, 45, 46, 47, 48, 49, 50, 51, 52, 53, 54, 55, 56] (by decide +kernel) (by decide +kernel)
set_option maxRecDepth 20000 in
theorem gX8_place_X8_isPin : GoodIn wsX8_place (wsV RX8 103 RX8 yX8_isPin wsX8_isPin) := goodIn_app (goodIn_of _ (by decide +kernel)) ggX8_place_X8_isPin
set_option maxRecDepth 20000 in
theorem ggX8_place_X8_isPlace : GoodIn wsX8_place wsX8_isPlace := goodIn_r _ [15, 16, 17, 10, 11, 7, 12] (by decide +kernel) (by decide +kernel)
set_option maxRecDepth 20000 in
theorem gX8_place_X8_isPlace : GoodIn wsX8_place (va_wsS RX8 95 yX8_isPlace wsX8_isPlace) := goodIn_app (goodIn_of _ (by decide +kernel)) ggX8_place_X8_isPlace
set_option maxRecDepth 20000 in
theorem ggX8_place_X8_pinAt : GoodIn wsX8_place wsX8_pinAt := goodIn_r _ [21, 9, 2, 3, 22, 23, 24, 25, 26, 27, 28, 29, 30, 31, 32, 33, 34, 35, 36, 37, 38, 39, 40, 41, 42, 43, 44, 45, 46, 47, 48, 49, 50, 51, 52, 53, 54, 55, 56] (by decide +kernel) (by decide +kernel)
set_option maxRecDepth 20000 in
theorem gX8_place_X8_pinAt : GoodIn wsX8_place (wsV RX8 99 RX8 yX8_pinAt wsX8_pinAt) := goodIn_app (goodIn_of _ (by decide +kernel)) ggX8_place_X8_pinAt
theorem dX8_place_0 : decode cX8_place 0 = .ok (.aload_n 0, 1) := by decide +kernel
theorem dX8_place_1 : decode cX8_place 1 = .ok (.iconst 0, 1) := by decide +kernel
theorem dX8_place_2 : decode cX8_place 2 = .ok (.putfield 77, 3) := by decide +kernel
theorem dX8_place_5 : decode cX8_place 5 = .ok (.aload_n 0, 1) := by decide +kernel
theorem dX8_place_6 : decode cX8_place 6 = .ok (.iload_n 1, 1) := by decide +kernel
theorem dX8_place_7 : decode cX8_place 7 = .ok (.invokevirtual 103, 3) := by decide +kernel
theorem dX8_place_10 : decode cX8_place 10 = .ok (.ifCond .eq 21, 3) := by decide +kernel
theorem dX8_place_13 : decode cX8_place 13 = .ok (.iload_n 2, 1) := by decide +kernel
theorem dX8_place_14 : decode cX8_place 14 = .ok (.iload_n 3, 1) := by decide +kernel
theorem dX8_place_15 : decode cX8_place 15 = .ok (.invokestatic 95, 3) := by decide +kernel
theorem dX8_place_18 : decode cX8_place 18 = .ok (.ifCond .eq 13, 3) := by decide +kernel
theorem dX8_place_21 : decode cX8_place 21 = .ok (.aload_n 0, 1) := by decide +kernel
theorem dX8_place_22 : decode cX8_place 22 = .ok (.iload_n 2, 1) := by decide +kernel
theorem dX8_place_23 : decode cX8_place 23 = .ok (.iload_n 3, 1) := by decide +kernel
theorem dX8_place_24 : decode cX8_place 24 = .ok (.invokevirtual 99, 3) := by decide +kernel
theorem dX8_place_27 : decode cX8_place 27 = .ok (.iconst (-1), 1) := by decide +kernel
theorem dX8_place_28 : decode cX8_place 28 = .ok (.if_icmp .eq 5, 3) := by decide +kernel
theorem dX8_place_31 : decode cX8_place 31 = .ok (.iconst 0, 1) := by decide +kernel
theorem dX8_place_32 : decode cX8_place 32 = .ok (.ireturn, 1) := by decide +kernel
theorem dX8_place_33 : decode cX8_place 33 = .ok (.aload_n 0, 1) := by decide +kernel
theorem dX8_place_34 : decode cX8_place 34 = .ok (.getfield 7, 3) := by decide +kernel
theorem dX8_place_37 : decode cX8_place 37 = .ok (.iload_n 1, 1) := by decide +kernel
theorem dX8_place_38 : decode cX8_place 38 = .ok (.iload_n 2, 1) := by decide +kernel
theorem dX8_place_39 : decode cX8_place 39 = .ok (.iastore, 1) := by decide +kernel
theorem dX8_place_40 : decode cX8_place 40 = .ok (.aload_n 0, 1) := by decide +kernel
theorem dX8_place_41 : decode cX8_place 41 = .ok (.getfield 13, 3) := by decide +kernel
theorem dX8_place_44 : decode cX8_place 44 = .ok (.iload_n 1, 1) := by decide +kernel
theorem dX8_place_45 : decode cX8_place 45 = .ok (.iload_n 3, 1) := by decide +kernel
theorem dX8_place_46 : decode cX8_place 46 = .ok (.iastore, 1) := by decide +kernel
theorem dX8_place_47 : decode cX8_place 47 = .ok (.iconst 1, 1) := by decide +kernel
theorem dX8_place_48 : decode cX8_place 48 = .ok (.ireturn, 1) := by decide +kernel
set_option maxRecDepth 20000 in
theorem ggX8_bar_X8_isPin : GoodIn wsX8_bar wsX8_isPin := goodIn_r _ [13, 14, 15, 16, 12, 17, 18, 19, 20, 21, 22, 23, 24, 25, 26, 27, 28, 29, 30, 31, 32, 33, 34, 35, 36, 37, 38, 39, 40, 41, 42, 43, 44, 45, 46, 47, 48, 49, 50, 51, 52] (by decide +kernel) (by decide +kernel)
set_option maxRecDepth 20000 in
theorem gX8_bar_X8_isPin : GoodIn wsX8_bar (wsV RX8 103 RX8 yX8_isPin wsX8_isPin) := goodIn_app (goodIn_of _ (by decide +kernel)) ggX8_bar_X8_isPin
set_option maxRecDepth 20000 in
theorem ggX8_bar_X8_in : GoodIn wsX8_bar wsX8_in := goodIn_r _ [17] (by decide +kernel) (by decide +kernel)
set_option maxRecDepth 20000 in
theorem gX8_bar_X8_in : GoodIn wsX8_bar (va_wsS RX8 84 yX8_in wsX8_in) := goodIn_app (goodIn_of _ (by decide +kernel)) ggX8_bar_X8_in
theorem dX8_bar_0 : decode cX8_bar 0 = .ok (.aload_n 0, 1) := by decide +kernel
theorem dX8_bar_1 : decode cX8_bar 1 = .ok (.iconst 0, 1) := by decide +kernel
theorem dX8_bar_2 : decode cX8_bar 2 = .ok (.putfield 77, 3) := by decide +kernel
theorem dX8_bar_5 : decode cX8_bar 5 = .ok (.aload_n 0, 1) := by decide +kernel
theorem dX8_bar_6 : decode cX8_bar 6 = .ok (.getfield 88, 3) := by decide +kernel
theorem dX8_bar_9 : decode cX8_bar 9 = .ok (.bipush 11, 2) := by decide +kernel
theorem dX8_bar_11 : decode cX8_bar 11 = .ok (.if_icmp .eq 36, 3) := by decide +kernel
theorem dX8_bar_14 : decode cX8_bar 14 = .ok (.aload_n 0, 1) := by decide +kernel
theorem dX8_bar_15 : decode cX8_bar 15 = .ok (.iload_n 1, 1) := by decide +kernel
theorem dX8_bar_16 : decode cX8_bar 16 = .ok (.invokevirtual 103, 3) := by decide +kernel
theorem dX8_bar_19 : decode cX8_bar 19 = .ok (.ifCond .eq 28, 3) := by decide +kernel
theorem dX8_bar_22 : decode cX8_bar 22 = .ok (.aload_n 0, 1) := by decide +kernel
theorem dX8_bar_23 : decode cX8_bar 23 = .ok (.iload_n 2, 1) := by decide +kernel
theorem dX8_bar_24 : decode cX8_bar 24 = .ok (.invokevirtual 103, 3) := by decide +kernel
theorem dX8_bar_27 : decode cX8_bar 27 = .ok (.ifCond .eq 20, 3) := by decide +kernel
theorem dX8_bar_30 : decode cX8_bar 30 = .ok (.iload_n 1, 1) := by decide +kernel
theorem dX8_bar_31 : decode cX8_bar 31 = .ok (.iload_n 2, 1) := by decide +kernel
theorem dX8_bar_32 : decode cX8_bar 32 = .ok (.if_icmp .eq 15, 3) := by decide +kernel
theorem dX8_bar_35 : decode cX8_bar 35 = .ok (.iload_n 3, 1) := by decide +kernel
theorem dX8_bar_36 : decode cX8_bar 36 = .ok (.i2l, 1) := by decide +kernel
theorem dX8_bar_37 : decode cX8_bar 37 = .ok (.lconst 1, 1) := by decide +kernel
theorem dX8_bar_38 : decode cX8_bar 38 = .ok (.ldc2_w 91, 3) := by decide +kernel
theorem dX8_bar_41 : decode cX8_bar 41 = .ok (.invokestatic 84, 3) := by decide +kernel
theorem dX8_bar_44 : decode cX8_bar 44 = .ok (.ifCond .ne 5, 3) := by decide +kernel
theorem dX8_bar_47 : decode cX8_bar 47 = .ok (.iconst (-1), 1) := by decide +kernel
theorem dX8_bar_48 : decode cX8_bar 48 = .ok (.ireturn, 1) := by decide +kernel
theorem dX8_bar_49 : decode cX8_bar 49 = .ok (.iconst 0, 1) := by decide +kernel
theorem dX8_bar_50 : decode cX8_bar 50 = .ok (.istore 4, 2) := by decide +kernel
theorem dX8_bar_52 : decode cX8_bar 52 = .ok (.iload 4, 2) := by decide +kernel
theorem dX8_bar_54 : decode cX8_bar 54 = .ok (.aload_n 0, 1) := by decide +kernel
theorem dX8_bar_55 : decode cX8_bar 55 = .ok (.getfield 88, 3) := by decide +kernel
theorem dX8_bar_58 : decode cX8_bar 58 = .ok (.if_icmp .ge 55, 3) := by decide +kernel
theorem dX8_bar_61 : decode cX8_bar 61 = .ok (.aload_n 0, 1) := by decide +kernel
theorem dX8_bar_62 : decode cX8_bar 62 = .ok (.getfield 22, 3) := by decide +kernel
theorem dX8_bar_65 : decode cX8_bar 65 = .ok (.iload 4, 2) := by decide +kernel
theorem dX8_bar_67 : decode cX8_bar 67 = .ok (.iaload, 1) := by decide +kernel
theorem dX8_bar_68 : decode cX8_bar 68 = .ok (.iload_n 1, 1) := by decide +kernel
theorem dX8_bar_69 : decode cX8_bar 69 = .ok (.if_icmp .ne 14, 3) := by decide +kernel
theorem dX8_bar_72 : decode cX8_bar 72 = .ok (.aload_n 0, 1) := by decide +kernel
theorem dX8_bar_73 : decode cX8_bar 73 = .ok (.getfield 25, 3) := by decide +kernel
theorem dX8_bar_76 : decode cX8_bar 76 = .ok (.iload 4, 2) := by decide +kernel
theorem dX8_bar_78 : decode cX8_bar 78 = .ok (.iaload, 1) := by decide +kernel
theorem dX8_bar_79 : decode cX8_bar 79 = .ok (.iload_n 2, 1) := by decide +kernel
theorem dX8_bar_80 : decode cX8_bar 80 = .ok (.if_icmp .eq 25, 3) := by decide +kernel
theorem dX8_bar_83 : decode cX8_bar 83 = .ok (.aload_n 0, 1) := by decide +kernel
theorem dX8_bar_84 : decode cX8_bar 84 = .ok (.getfield 22, 3) := by decide +kernel
theorem dX8_bar_87 : decode cX8_bar 87 = .ok (.iload 4, 2) := by decide +kernel
theorem dX8_bar_89 : decode cX8_bar 89 = .ok (.iaload, 1) := by decide +kernel
theorem dX8_bar_90 : decode cX8_bar 90 = .ok (.iload_n 2, 1) := by decide +kernel
theorem dX8_bar_91 : decode cX8_bar 91 = .ok (.if_icmp .ne 16, 3) := by decide +kernel
theorem dX8_bar_94 : decode cX8_bar 94 = .ok (.aload_n 0, 1) := by decide +kernel
theorem dX8_bar_95 : decode cX8_bar 95 = .ok (.getfield 25, 3) := by decide +kernel
theorem dX8_bar_98 : decode cX8_bar 98 = .ok (.iload 4, 2) := by decide +kernel
theorem dX8_bar_100 : decode cX8_bar 100 = .ok (.iaload, 1) := by decide +kernel
theorem dX8_bar_101 : decode cX8_bar 101 = .ok (.iload_n 1, 1) := by decide +kernel
theorem dX8_bar_102 : decode cX8_bar 102 = .ok (.if_icmp .ne 5, 3) := by decide +kernel
theorem dX8_bar_105 : decode cX8_bar 105 = .ok (.iconst (-1), 1) := by decide +kernel
theorem dX8_bar_106 : decode cX8_bar 106 = .ok (.ireturn, 1) := by decide +kernel
theorem dX8_bar_107 : decode cX8_bar 107 = .ok (.iinc 4 1, 3) := by decide +kernel
theorem dX8_bar_110 : decode cX8_bar 110 = .ok (.goto (-58), 3) := by decide +kernel
theorem dX8_bar_113 : decode cX8_bar 113 = .ok (.aload_n 0, 1) := by decide +kernel
theorem dX8_bar_114 : decode cX8_bar 114 = .ok (.getfield 22, 3) := by decide +kernel
theorem dX8_bar_117 : decode cX8_bar 117 = .ok (.aload_n 0, 1) := by decide +kernel
theorem dX8_bar_118 : decode cX8_bar 118 = .ok (.getfield 88, 3) := by decide +kernel
theorem dX8_bar_121 : decode cX8_bar 121 = .ok (.iload_n 1, 1) := by decide +kernel
theorem dX8_bar_122 : decode cX8_bar 122 = .ok (.iastore, 1) := by decide +kernel
theorem dX8_bar_123 : decode cX8_bar 123 = .ok (.aload_n 0, 1) := by decide +kernel
theorem dX8_bar_124 : decode cX8_bar 124 = .ok (.getfield 25, 3) := by decide +kernel
theorem dX8_bar_127 : decode cX8_bar 127 = .ok (.aload_n 0, 1) := by decide +kernel
theorem dX8_bar_128 : decode cX8_bar 128 = .ok (.getfield 88, 3) := by decide +kernel
theorem dX8_bar_131 : decode cX8_bar 131 = .ok (.iload_n 2, 1) := by decide +kernel
theorem dX8_bar_132 : decode cX8_bar 132 = .ok (.iastore, 1) := by decide +kernel
theorem dX8_bar_133 : decode cX8_bar 133 = .ok (.aload_n 0, 1) := by decide +kernel
theorem dX8_bar_134 : decode cX8_bar 134 = .ok (.getfield 28, 3) := by decide +kernel
theorem dX8_bar_137 : decode cX8_bar 137 = .ok (.aload_n 0, 1) := by decide +kernel
theorem dX8_bar_138 : decode cX8_bar 138 = .ok (.getfield 88, 3) := by decide +kernel
theorem dX8_bar_141 : decode cX8_bar 141 = .ok (.iload_n 3, 1) := by decide +kernel
theorem dX8_bar_142 : decode cX8_bar 142 = .ok (.iastore, 1) := by decide +kernel
theorem dX8_bar_143 : decode cX8_bar 143 = .ok (.aload_n 0, 1) := by decide +kernel
theorem dX8_bar_144 : decode cX8_bar 144 = .ok (.getfield 31, 3) := by decide +kernel
theorem dX8_bar_147 : decode cX8_bar 147 = .ok (.aload_n 0, 1) := by decide +kernel
theorem dX8_bar_148 : decode cX8_bar 148 = .ok (.getfield 88, 3) := by decide +kernel
theorem dX8_bar_151 : decode cX8_bar 151 = .ok (.bipush 99, 2) := by decide +kernel
theorem dX8_bar_153 : decode cX8_bar 153 = .ok (.iastore, 1) := by decide +kernel
theorem dX8_bar_154 : decode cX8_bar 154 = .ok (.aload_n 0, 1) := by decide +kernel
theorem dX8_bar_155 : decode cX8_bar 155 = .ok (.dup, 1) := by decide +kernel
theorem dX8_bar_156 : decode cX8_bar 156 = .ok (.getfield 107, 3) := by decide +kernel
theorem dX8_bar_159 : decode cX8_bar 159 = .ok (.iconst 1, 1) := by decide +kernel
theorem dX8_bar_160 : decode cX8_bar 160 = .ok (.aload_n 0, 1) := by decide +kernel
theorem dX8_bar_161 : decode cX8_bar 161 = .ok (.getfield 88, 3) := by decide +kernel
theorem dX8_bar_164 : decode cX8_bar 164 = .ok (.ishl, 1) := by decide +kernel
theorem dX8_bar_165 : decode cX8_bar 165 = .ok (.ior, 1) := by decide +kernel
theorem dX8_bar_166 : decode cX8_bar 166 = .ok (.putfield 107, 3) := by decide +kernel
theorem dX8_bar_169 : decode cX8_bar 169 = .ok (.aload_n 0, 1) := by decide +kernel
theorem dX8_bar_170 : decode cX8_bar 170 = .ok (.dup, 1) := by decide +kernel
theorem dX8_bar_171 : decode cX8_bar 171 = .ok (.getfield 88, 3) := by decide +kernel
theorem dX8_bar_174 : decode cX8_bar 174 = .ok (.iconst 1, 1) := by decide +kernel
theorem dX8_bar_175 : decode cX8_bar 175 = .ok (.iadd, 1) := by decide +kernel
theorem dX8_bar_176 : decode cX8_bar 176 = .ok (.putfield 88, 3) := by decide +kernel
theorem dX8_bar_179 : decode cX8_bar 179 = .ok (.aload_n 0, 1) := by decide +kernel
theorem dX8_bar_180 : decode cX8_bar 180 = .ok (.getfield 88, 3) := by decide +kernel
theorem dX8_bar_183 : decode cX8_bar 183 = .ok (.iconst 1, 1) := by decide +kernel
theorem dX8_bar_184 : decode cX8_bar 184 = .ok (.isub, 1) := by decide +kernel
theorem dX8_bar_185 : decode cX8_bar 185 = .ok (.ireturn, 1) := by decide +kernel
set_option maxRecDepth 20000 in
theorem ggX8_turn_X8_isBar : GoodIn wsX8_turn wsX8_isBar := goodIn_r _ [7, 8, 9, 10, 6, 11, 15, 16, 17, 18, 19, 20, 21, 22, 23, 24, 25, 26, 27, 28, 29, 30, 31, 32, 33, 34, 35, 36, 37, 38, 39, 40, 41, 42, 43, 44, 45, 46, 47, 48, 49] (by decide +kernel) (by decide +kernel)
set_option maxRecDepth 20000 in
theorem gX8_turn_X8_isBar : GoodIn wsX8_turn (wsV RX8 110 RX8 yX8_isBar wsX8_isBar) := goodIn_app (goodIn_of _ (by decide +kernel)) ggX8_turn_X8_isBar
set_option maxRecDepth 20000 in
theorem ggX8_turn_X8_isOn : GoodIn wsX8_turn wsX8_isOn := goodIn_r _ [14] (by decide +kernel) (by decide +kernel)
set_option maxRecDepth 20000 in
theorem gX8_turn_X8_isOn : GoodIn wsX8_turn (va_wsS RX8 113 yX8_isOn wsX8_isOn) := goodIn_app (goodIn_of _ (by decide +kernel)) ggX8_turn_X8_isOn
theorem dX8_turn_0 : decode cX8_turn 0 = .ok (.aload_n 0, 1) := by decide +kernel
theorem dX8_turn_1 : decode cX8_turn 1 = .ok (.iconst 0, 1) := by decide +kernel
theorem dX8_turn_2 : decode cX8_turn 2 = .ok (.putfield 77, 3) := by decide +kernel
theorem dX8_turn_5 : decode cX8_turn 5 = .ok (.aload_n 0, 1) := by decide +kernel
theorem dX8_turn_6 : decode cX8_turn 6 = .ok (.iload_n 1, 1) := by decide +kernel
theorem dX8_turn_7 : decode cX8_turn 7 = .ok (.invokevirtual 110, 3) := by decide +kernel
theorem dX8_turn_10 : decode cX8_turn 10 = .ok (.ifCond .eq 15, 3) := by decide +kernel
theorem dX8_turn_13 : decode cX8_turn 13 = .ok (.aload_n 0, 1) := by decide +kernel
theorem dX8_turn_14 : decode cX8_turn 14 = .ok (.getfield 107, 3) := by decide +kernel
theorem dX8_turn_17 : decode cX8_turn 17 = .ok (.iload_n 1, 1) := by decide +kernel
theorem dX8_turn_18 : decode cX8_turn 18 = .ok (.invokestatic 113, 3) := by decide +kernel
theorem dX8_turn_21 : decode cX8_turn 21 = .ok (.iload_n 2, 1) := by decide +kernel
theorem dX8_turn_22 : decode cX8_turn 22 = .ok (.if_icmp .ne 5, 3) := by decide +kernel
theorem dX8_turn_25 : decode cX8_turn 25 = .ok (.iconst 0, 1) := by decide +kernel
theorem dX8_turn_26 : decode cX8_turn 26 = .ok (.ireturn, 1) := by decide +kernel
theorem dX8_turn_27 : decode cX8_turn 27 = .ok (.aload_n 0, 1) := by decide +kernel
theorem dX8_turn_28 : decode cX8_turn 28 = .ok (.dup, 1) := by decide +kernel
theorem dX8_turn_29 : decode cX8_turn 29 = .ok (.getfield 107, 3) := by decide +kernel
theorem dX8_turn_32 : decode cX8_turn 32 = .ok (.iconst 1, 1) := by decide +kernel
theorem dX8_turn_33 : decode cX8_turn 33 = .ok (.iload_n 1, 1) := by decide +kernel
theorem dX8_turn_34 : decode cX8_turn 34 = .ok (.ishl, 1) := by decide +kernel
theorem dX8_turn_35 : decode cX8_turn 35 = .ok (.ixor, 1) := by decide +kernel
theorem dX8_turn_36 : decode cX8_turn 36 = .ok (.putfield 107, 3) := by decide +kernel
theorem dX8_turn_39 : decode cX8_turn 39 = .ok (.iconst 1, 1) := by decide +kernel
theorem dX8_turn_40 : decode cX8_turn 40 = .ok (.ireturn, 1) := by decide +kernel
set_option maxRecDepth 20000 in
theorem ggX8_alter_X8_isBar : GoodIn wsX8_alter wsX8_isBar := goodIn_r _ [10, 11, 12, 13, 9, 14, 15, 16, 17, 18, 19, 20, 21, 22, 23, 24, 25, 26, 27, 28, 29, 30, 31, 32, 33, 34, 35, 36, 37, 38, 39, 40, 41, 42, 43, 44, 45, 46, 47, 48, 49] (by decide +kernel) (by decide +kernel)
set_option maxRecDepth 20000 in
theorem gX8_alter_X8_isBar : GoodIn wsX8_alter (wsV RX8 110 RX8 yX8_isBar wsX8_isBar) := goodIn_app (goodIn_of _ (by decide +kernel)) ggX8_alter_X8_isBar
set_option maxRecDepth 20000 in
theorem ggX8_alter_X8_in : GoodIn wsX8_alter wsX8_in := goodIn_r _ [14] (by decide +kernel) (by decide +kernel)
set_option maxRecDepth 20000 in
theorem gX8_alter_X8_in : GoodIn wsX8_alter (va_wsS RX8 84 yX8_in wsX8_in) := goodIn_app (goodIn_of _ (by decide +kernel)) ggX8_alter_X8_in
theorem dX8_alter_0 : decode cX8_alter 0 = .ok (.aload_n 0, 1) := by decide +kernel
theorem dX8_alter_1 : decode cX8_alter 1 = .ok (.iconst 0, 1) := by decide +kernel
theorem dX8_alter_2 : decode cX8_alter 2 = .ok (.putfield 77, 3) := by decide +kernel
theorem dX8_alter_5 : decode cX8_alter 5 = .ok (.aload_n 0, 1) := by decide +kernel
theorem dX8_alter_6 : decode cX8_alter 6 = .ok (.iload_n 1, 1) := by decide +kernel
theorem dX8_alter_7 : decode cX8_alter 7 = .ok (.invokevirtual 110, 3) := by decide +kernel
theorem dX8_alter_10 : decode cX8_alter 10 = .ok (.ifCond .eq 48, 3) := by decide +kernel
theorem dX8_alter_13 : decode cX8_alter 13 = .ok (.iload_n 3, 1) := by decide +kernel
theorem dX8_alter_14 : decode cX8_alter 14 = .ok (.i2l, 1) := by decide +kernel
theorem dX8_alter_15 : decode cX8_alter 15 = .ok (.lconst 1, 1) := by decide +kernel
theorem dX8_alter_16 : decode cX8_alter 16 = .ok (.iload_n 2, 1) := by decide +kernel
theorem dX8_alter_17 : decode cX8_alter 17 = .ok (.ifCond .eq 9, 3) := by decide +kernel
theorem dX8_alter_20 : decode cX8_alter 20 = .ok (.ldc2_w 116, 3) := by decide +kernel
theorem dX8_alter_23 : decode cX8_alter 23 = .ok (.goto 6, 3) := by decide +kernel
theorem dX8_alter_26 : decode cX8_alter 26 = .ok (.ldc2_w 91, 3) := by decide +kernel
theorem dX8_alter_29 : decode cX8_alter 29 = .ok (.invokestatic 84, 3) := by decide +kernel
theorem dX8_alter_32 : decode cX8_alter 32 = .ok (.ifCond .eq 26, 3) := by decide +kernel
theorem dX8_alter_35 : decode cX8_alter 35 = .ok (.iload_n 2, 1) := by decide +kernel
theorem dX8_alter_36 : decode cX8_alter 36 = .ok (.ifCond .eq 12, 3) := by decide +kernel
theorem dX8_alter_39 : decode cX8_alter 39 = .ok (.aload_n 0, 1) := by decide +kernel
theorem dX8_alter_40 : decode cX8_alter 40 = .ok (.getfield 31, 3) := by decide +kernel
theorem dX8_alter_43 : decode cX8_alter 43 = .ok (.iload_n 1, 1) := by decide +kernel
theorem dX8_alter_44 : decode cX8_alter 44 = .ok (.iaload, 1) := by decide +kernel
theorem dX8_alter_45 : decode cX8_alter 45 = .ok (.goto 9, 3) := by decide +kernel
theorem dX8_alter_48 : decode cX8_alter 48 = .ok (.aload_n 0, 1) := by decide +kernel
theorem dX8_alter_49 : decode cX8_alter 49 = .ok (.getfield 28, 3) := by decide +kernel
theorem dX8_alter_52 : decode cX8_alter 52 = .ok (.iload_n 1, 1) := by decide +kernel
theorem dX8_alter_53 : decode cX8_alter 53 = .ok (.iaload, 1) := by decide +kernel
theorem dX8_alter_54 : decode cX8_alter 54 = .ok (.iload_n 3, 1) := by decide +kernel
theorem dX8_alter_55 : decode cX8_alter 55 = .ok (.if_icmp .ne 5, 3) := by decide +kernel
theorem dX8_alter_58 : decode cX8_alter 58 = .ok (.iconst 0, 1) := by decide +kernel
theorem dX8_alter_59 : decode cX8_alter 59 = .ok (.ireturn, 1) := by decide +kernel
theorem dX8_alter_60 : decode cX8_alter 60 = .ok (.iload_n 2, 1) := by decide +kernel
theorem dX8_alter_61 : decode cX8_alter 61 = .ok (.ifCond .eq 13, 3) := by decide +kernel
theorem dX8_alter_64 : decode cX8_alter 64 = .ok (.aload_n 0, 1) := by decide +kernel
theorem dX8_alter_65 : decode cX8_alter 65 = .ok (.getfield 31, 3) := by decide +kernel
theorem dX8_alter_68 : decode cX8_alter 68 = .ok (.iload_n 1, 1) := by decide +kernel
theorem dX8_alter_69 : decode cX8_alter 69 = .ok (.iload_n 3, 1) := by decide +kernel
theorem dX8_alter_70 : decode cX8_alter 70 = .ok (.iastore, 1) := by decide +kernel
theorem dX8_alter_71 : decode cX8_alter 71 = .ok (.goto 10, 3) := by decide +kernel
theorem dX8_alter_74 : decode cX8_alter 74 = .ok (.aload_n 0, 1) := by decide +kernel
theorem dX8_alter_75 : decode cX8_alter 75 = .ok (.getfield 28, 3) := by decide +kernel
theorem dX8_alter_78 : decode cX8_alter 78 = .ok (.iload_n 1, 1) := by decide +kernel
theorem dX8_alter_79 : decode cX8_alter 79 = .ok (.iload_n 3, 1) := by decide +kernel
theorem dX8_alter_80 : decode cX8_alter 80 = .ok (.iastore, 1) := by decide +kernel
theorem dX8_alter_81 : decode cX8_alter 81 = .ok (.iconst 1, 1) := by decide +kernel
theorem dX8_alter_82 : decode cX8_alter 82 = .ok (.ireturn, 1) := by decide +kernel
set_option maxRecDepth 20000 in
theorem ggX8_hold_X8_isPin : GoodIn wsX8_hold wsX8_isPin := goodIn_r _ [7, 8, 9, 10, 6, 11, 15, 16, 17, 18, 19, 20, 21, 22, 23, 24, 25, 26, 27, 28, 29, 30, 31, 32, 33, 34, 35, 36, 37, 38, 39, 40, 41, 42, 43, 44, 45, 46, 47, 48, 49] (by decide +kernel) (by decide +kernel)
set_option maxRecDepth 20000 in
theorem gX8_hold_X8_isPin : GoodIn wsX8_hold (wsV RX8 103 RX8 yX8_isPin wsX8_isPin) := goodIn_app (goodIn_of _ (by decide +kernel)) ggX8_hold_X8_isPin
set_option maxRecDepth 20000 in
theorem ggX8_hold_X8_in : GoodIn wsX8_hold wsX8_in := goodIn_r _ [11] (by decide +kernel) (by decide +kernel)
set_option maxRecDepth 20000 in
theorem gX8_hold_X8_in : GoodIn wsX8_hold (va_wsS RX8 84 yX8_in wsX8_in) := goodIn_app (goodIn_of _ (by decide +kernel)) ggX8_hold_X8_in
set_option maxRecDepth 20000 in
theorem ggX8_hold_X8_isOn : GoodIn wsX8_hold wsX8_isOn := goodIn_r _ [14] (by decide +kernel) (by decide +kernel)
set_option maxRecDepth 20000 in
theorem gX8_hold_X8_isOn : GoodIn wsX8_hold (va_wsS RX8 113 yX8_isOn wsX8_isOn) := goodIn_app (goodIn_of _ (by decide +kernel)) ggX8_hold_X8_isOn
theorem dX8_hold_0 : decode cX8_hold 0 = .ok (.aload_n 0, 1) := by decide +kernel
theorem dX8_hold_1 : decode cX8_hold 1 = .ok (.iconst 0, 1) := by decide +kernel
theorem dX8_hold_2 : decode cX8_hold 2 = .ok (.putfield 77, 3) := by decide +kernel
theorem dX8_hold_5 : decode cX8_hold 5 = .ok (.aload_n 0, 1) := by decide +kernel
theorem dX8_hold_6 : decode cX8_hold 6 = .ok (.iload_n 1, 1) := by decide +kernel
theorem dX8_hold_7 : decode cX8_hold 7 = .ok (.invokevirtual 103, 3) := by decide +kernel
theorem dX8_hold_10 : decode cX8_hold 10 = .ok (.ifCond .eq 27, 3) := by decide +kernel
theorem dX8_hold_13 : decode cX8_hold 13 = .ok (.iload_n 2, 1) := by decide +kernel
theorem dX8_hold_14 : decode cX8_hold 14 = .ok (.i2l, 1) := by decide +kernel
theorem dX8_hold_15 : decode cX8_hold 15 = .ok (.lconst 0, 1) := by decide +kernel
theorem dX8_hold_16 : decode cX8_hold 16 = .ok (.lconst 1, 1) := by decide +kernel
theorem dX8_hold_17 : decode cX8_hold 17 = .ok (.invokestatic 84, 3) := by decide +kernel
theorem dX8_hold_20 : decode cX8_hold 20 = .ok (.ifCond .eq 17, 3) := by decide +kernel
theorem dX8_hold_23 : decode cX8_hold 23 = .ok (.aload_n 0, 1) := by decide +kernel
theorem dX8_hold_24 : decode cX8_hold 24 = .ok (.getfield 16, 3) := by decide +kernel
theorem dX8_hold_27 : decode cX8_hold 27 = .ok (.iload_n 1, 1) := by decide +kernel
theorem dX8_hold_28 : decode cX8_hold 28 = .ok (.iaload, 1) := by decide +kernel
theorem dX8_hold_29 : decode cX8_hold 29 = .ok (.iload_n 2, 1) := by decide +kernel
theorem dX8_hold_30 : decode cX8_hold 30 = .ok (.invokestatic 113, 3) := by decide +kernel
theorem dX8_hold_33 : decode cX8_hold 33 = .ok (.iload_n 3, 1) := by decide +kernel
theorem dX8_hold_34 : decode cX8_hold 34 = .ok (.if_icmp .ne 5, 3) := by decide +kernel
theorem dX8_hold_37 : decode cX8_hold 37 = .ok (.iconst 0, 1) := by decide +kernel
theorem dX8_hold_38 : decode cX8_hold 38 = .ok (.ireturn, 1) := by decide +kernel
theorem dX8_hold_39 : decode cX8_hold 39 = .ok (.aload_n 0, 1) := by decide +kernel
theorem dX8_hold_40 : decode cX8_hold 40 = .ok (.getfield 16, 3) := by decide +kernel
theorem dX8_hold_43 : decode cX8_hold 43 = .ok (.iload_n 1, 1) := by decide +kernel
theorem dX8_hold_44 : decode cX8_hold 44 = .ok (.dup2, 1) := by decide +kernel
theorem dX8_hold_45 : decode cX8_hold 45 = .ok (.iaload, 1) := by decide +kernel
theorem dX8_hold_46 : decode cX8_hold 46 = .ok (.iconst 1, 1) := by decide +kernel
theorem dX8_hold_47 : decode cX8_hold 47 = .ok (.iload_n 2, 1) := by decide +kernel
theorem dX8_hold_48 : decode cX8_hold 48 = .ok (.ishl, 1) := by decide +kernel
theorem dX8_hold_49 : decode cX8_hold 49 = .ok (.ixor, 1) := by decide +kernel
theorem dX8_hold_50 : decode cX8_hold 50 = .ok (.iastore, 1) := by decide +kernel
theorem dX8_hold_51 : decode cX8_hold 51 = .ok (.iconst 1, 1) := by decide +kernel
theorem dX8_hold_52 : decode cX8_hold 52 = .ok (.ireturn, 1) := by decide +kernel
set_option maxRecDepth 20000 in
theorem ggX8_load_X8_isPin : GoodIn wsX8_load wsX8_isPin := goodIn_r _ [9, 10, 11, 12, 8, 13, 14, 15, 16, 17, 18, 19, 20, 21, 22, 23, 24, 25, 26, 27, 28, 29, 30, 31, 32, 33, 34, 35, 36, 37, 38, 39, 40, 41, 42, 43, 44, 45, 46, 47, 48] (by decide +kernel) (by decide +kernel)
set_option maxRecDepth 20000 in
theorem gX8_load_X8_isPin : GoodIn wsX8_load (wsV RX8 103 RX8 yX8_isPin wsX8_isPin) := goodIn_app (goodIn_of _ (by decide +kernel)) ggX8_load_X8_isPin
set_option maxRecDepth 20000 in
theorem ggX8_load_X8_in : GoodIn wsX8_load wsX8_in := goodIn_r _ [13] (by decide +kernel) (by decide +kernel)
set_option maxRecDepth 20000 in
theorem gX8_load_X8_in : GoodIn wsX8_load (va_wsS RX8 84 yX8_in wsX8_in) := goodIn_app (goodIn_of _ (by decide +kernel)) ggX8_load_X8_in
theorem dX8_load_0 : decode cX8_load 0 = .ok (.aload_n 0, 1) := by decide +kernel
theorem dX8_load_1 : decode cX8_load 1 = .ok (.iconst 0, 1) := by decide +kernel
theorem dX8_load_2 : decode cX8_load 2 = .ok (.putfield 77, 3) := by decide +kernel
theorem dX8_load_5 : decode cX8_load 5 = .ok (.aload_n 0, 1) := by decide +kernel
theorem dX8_load_6 : decode cX8_load 6 = .ok (.iload_n 1, 1) := by decide +kernel
theorem dX8_load_7 : decode cX8_load 7 = .ok (.invokevirtual 103, 3) := by decide +kernel
theorem dX8_load_10 : decode cX8_load 10 = .ok (.ifCond .eq 31, 3) := by decide +kernel
theorem dX8_load_13 : decode cX8_load 13 = .ok (.iload_n 2, 1) := by decide +kernel
theorem dX8_load_14 : decode cX8_load 14 = .ok (.i2l, 1) := by decide +kernel
theorem dX8_load_15 : decode cX8_load 15 = .ok (.ldc2_w 118, 3) := by decide +kernel
theorem dX8_load_18 : decode cX8_load 18 = .ok (.ldc2_w 120, 3) := by decide +kernel
theorem dX8_load_21 : decode cX8_load 21 = .ok (.invokestatic 84, 3) := by decide +kernel
theorem dX8_load_24 : decode cX8_load 24 = .ok (.ifCond .eq 17, 3) := by decide +kernel
theorem dX8_load_27 : decode cX8_load 27 = .ok (.iload_n 3, 1) := by decide +kernel
theorem dX8_load_28 : decode cX8_load 28 = .ok (.i2l, 1) := by decide +kernel
theorem dX8_load_29 : decode cX8_load 29 = .ok (.ldc2_w 118, 3) := by decide +kernel
theorem dX8_load_32 : decode cX8_load 32 = .ok (.ldc2_w 120, 3) := by decide +kernel
theorem dX8_load_35 : decode cX8_load 35 = .ok (.invokestatic 84, 3) := by decide +kernel
theorem dX8_load_38 : decode cX8_load 38 = .ok (.ifCond .ne 5, 3) := by decide +kernel
theorem dX8_load_41 : decode cX8_load 41 = .ok (.iconst 0, 1) := by decide +kernel
theorem dX8_load_42 : decode cX8_load 42 = .ok (.ireturn, 1) := by decide +kernel
theorem dX8_load_43 : decode cX8_load 43 = .ok (.aload_n 0, 1) := by decide +kernel
theorem dX8_load_44 : decode cX8_load 44 = .ok (.getfield 19, 3) := by decide +kernel
theorem dX8_load_47 : decode cX8_load 47 = .ok (.iconst 2, 1) := by decide +kernel
theorem dX8_load_48 : decode cX8_load 48 = .ok (.iload_n 1, 1) := by decide +kernel
theorem dX8_load_49 : decode cX8_load 49 = .ok (.imul, 1) := by decide +kernel
theorem dX8_load_50 : decode cX8_load 50 = .ok (.iload_n 2, 1) := by decide +kernel
theorem dX8_load_51 : decode cX8_load 51 = .ok (.iastore, 1) := by decide +kernel
theorem dX8_load_52 : decode cX8_load 52 = .ok (.aload_n 0, 1) := by decide +kernel
theorem dX8_load_53 : decode cX8_load 53 = .ok (.getfield 19, 3) := by decide +kernel
theorem dX8_load_56 : decode cX8_load 56 = .ok (.iconst 2, 1) := by decide +kernel
theorem dX8_load_57 : decode cX8_load 57 = .ok (.iload_n 1, 1) := by decide +kernel
theorem dX8_load_58 : decode cX8_load 58 = .ok (.imul, 1) := by decide +kernel
theorem dX8_load_59 : decode cX8_load 59 = .ok (.iconst 1, 1) := by decide +kernel
theorem dX8_load_60 : decode cX8_load 60 = .ok (.iadd, 1) := by decide +kernel
theorem dX8_load_61 : decode cX8_load 61 = .ok (.iload_n 3, 1) := by decide +kernel
theorem dX8_load_62 : decode cX8_load 62 = .ok (.iastore, 1) := by decide +kernel
theorem dX8_load_63 : decode cX8_load 63 = .ok (.iconst 1, 1) := by decide +kernel
theorem dX8_load_64 : decode cX8_load 64 = .ok (.ireturn, 1) := by decide +kernel
theorem dX8_unload_0 : decode cX8_unload 0 = .ok (.aload_n 0, 1) := by decide +kernel
theorem dX8_unload_1 : decode cX8_unload 1 = .ok (.iconst 0, 1) := by decide +kernel
theorem dX8_unload_2 : decode cX8_unload 2 = .ok (.putfield 77, 3) := by decide +kernel
theorem dX8_unload_5 : decode cX8_unload 5 = .ok (.iconst 0, 1) := by decide +kernel
theorem dX8_unload_6 : decode cX8_unload 6 = .ok (.istore_n 1, 1) := by decide +kernel
theorem dX8_unload_7 : decode cX8_unload 7 = .ok (.iconst 0, 1) := by decide +kernel
theorem dX8_unload_8 : decode cX8_unload 8 = .ok (.istore_n 2, 1) := by decide +kernel
theorem dX8_unload_9 : decode cX8_unload 9 = .ok (.iload_n 2, 1) := by decide +kernel
theorem dX8_unload_10 : decode cX8_unload 10 = .ok (.bipush 12, 2) := by decide +kernel
theorem dX8_unload_12 : decode cX8_unload 12 = .ok (.if_icmp .ge 33, 3) := by decide +kernel
theorem dX8_unload_15 : decode cX8_unload 15 = .ok (.iload_n 1, 1) := by decide +kernel
theorem dX8_unload_16 : decode cX8_unload 16 = .ok (.aload_n 0, 1) := by decide +kernel
theorem dX8_unload_17 : decode cX8_unload 17 = .ok (.getfield 19, 3) := by decide +kernel
theorem dX8_unload_20 : decode cX8_unload 20 = .ok (.iload_n 2, 1) := by decide +kernel
theorem dX8_unload_21 : decode cX8_unload 21 = .ok (.iaload, 1) := by decide +kernel
theorem dX8_unload_22 : decode cX8_unload 22 = .ok (.ifCond .eq 7, 3) := by decide +kernel
theorem dX8_unload_25 : decode cX8_unload 25 = .ok (.iconst 1, 1) := by decide +kernel
theorem dX8_unload_26 : decode cX8_unload 26 = .ok (.goto 4, 3) := by decide +kernel
theorem dX8_unload_29 : decode cX8_unload 29 = .ok (.iconst 0, 1) := by decide +kernel
theorem dX8_unload_30 : decode cX8_unload 30 = .ok (.iadd, 1) := by decide +kernel
theorem dX8_unload_31 : decode cX8_unload 31 = .ok (.istore_n 1, 1) := by decide +kernel
theorem dX8_unload_32 : decode cX8_unload 32 = .ok (.aload_n 0, 1) := by decide +kernel
theorem dX8_unload_33 : decode cX8_unload 33 = .ok (.getfield 19, 3) := by decide +kernel
theorem dX8_unload_36 : decode cX8_unload 36 = .ok (.iload_n 2, 1) := by decide +kernel
theorem dX8_unload_37 : decode cX8_unload 37 = .ok (.iconst 0, 1) := by decide +kernel
theorem dX8_unload_38 : decode cX8_unload 38 = .ok (.iastore, 1) := by decide +kernel
theorem dX8_unload_39 : decode cX8_unload 39 = .ok (.iinc 2 1, 3) := by decide +kernel
theorem dX8_unload_42 : decode cX8_unload 42 = .ok (.goto (-33), 3) := by decide +kernel
theorem dX8_unload_45 : decode cX8_unload 45 = .ok (.iload_n 1, 1) := by decide +kernel
theorem dX8_unload_46 : decode cX8_unload 46 = .ok (.ireturn, 1) := by decide +kernel
set_option maxRecDepth 20000 in
theorem ggX8_deck_X8_isPin : GoodIn wsX8_deck wsX8_isPin := goodIn_r _ [8, 9, 10, 11, 7, 12, 13, 14, 15, 16, 17, 18, 19, 20, 21, 22, 23, 24, 25, 26, 27, 28, 29, 30, 31, 32, 33, 34, 35, 36, 37, 38, 39, 40, 41, 42, 43, 44, 45, 46, 47] (by decide +kernel) (by decide +kernel)
set_option maxRecDepth 20000 in
theorem gX8_deck_X8_isPin : GoodIn wsX8_deck (wsV RX8 103 RX8 yX8_isPin wsX8_isPin) := goodIn_app (goodIn_of _ (by decide +kernel)) ggX8_deck_X8_isPin
theorem dX8_deck_0 : decode cX8_deck 0 = .ok (.aload_n 0, 1) := by decide +kernel
theorem dX8_deck_1 : decode cX8_deck 1 = .ok (.iconst 0, 1) := by decide +kernel
theorem dX8_deck_2 : decode cX8_deck 2 = .ok (.putfield 77, 3) := by decide +kernel
theorem dX8_deck_5 : decode cX8_deck 5 = .ok (.aload_n 0, 1) := by decide +kernel
theorem dX8_deck_6 : decode cX8_deck 6 = .ok (.iload_n 1, 1) := by decide +kernel
theorem dX8_deck_7 : decode cX8_deck 7 = .ok (.invokevirtual 103, 3) := by decide +kernel
theorem dX8_deck_10 : decode cX8_deck 10 = .ok (.ifCond .ne 5, 3) := by decide +kernel
theorem dX8_deck_13 : decode cX8_deck 13 = .ok (.iconst (-1), 1) := by decide +kernel
theorem dX8_deck_14 : decode cX8_deck 14 = .ok (.ireturn, 1) := by decide +kernel
theorem dX8_deck_15 : decode cX8_deck 15 = .ok (.iconst 0, 1) := by decide +kernel
theorem dX8_deck_16 : decode cX8_deck 16 = .ok (.istore_n 2, 1) := by decide +kernel
theorem dX8_deck_17 : decode cX8_deck 17 = .ok (.iload_n 2, 1) := by decide +kernel
theorem dX8_deck_18 : decode cX8_deck 18 = .ok (.aload_n 0, 1) := by decide +kernel
theorem dX8_deck_19 : decode cX8_deck 19 = .ok (.getfield 122, 3) := by decide +kernel
theorem dX8_deck_22 : decode cX8_deck 22 = .ok (.if_icmp .ge 21, 3) := by decide +kernel
theorem dX8_deck_25 : decode cX8_deck 25 = .ok (.aload_n 0, 1) := by decide +kernel
theorem dX8_deck_26 : decode cX8_deck 26 = .ok (.getfield 34, 3) := by decide +kernel
theorem dX8_deck_29 : decode cX8_deck 29 = .ok (.iload_n 2, 1) := by decide +kernel
theorem dX8_deck_30 : decode cX8_deck 30 = .ok (.iaload, 1) := by decide +kernel
theorem dX8_deck_31 : decode cX8_deck 31 = .ok (.iload_n 1, 1) := by decide +kernel
theorem dX8_deck_32 : decode cX8_deck 32 = .ok (.if_icmp .ne 5, 3) := by decide +kernel
theorem dX8_deck_35 : decode cX8_deck 35 = .ok (.iconst (-1), 1) := by decide +kernel
theorem dX8_deck_36 : decode cX8_deck 36 = .ok (.ireturn, 1) := by decide +kernel
theorem dX8_deck_37 : decode cX8_deck 37 = .ok (.iinc 2 1, 3) := by decide +kernel
theorem dX8_deck_40 : decode cX8_deck 40 = .ok (.goto (-23), 3) := by decide +kernel
theorem dX8_deck_43 : decode cX8_deck 43 = .ok (.aload_n 0, 1) := by decide +kernel
theorem dX8_deck_44 : decode cX8_deck 44 = .ok (.getfield 34, 3) := by decide +kernel
theorem dX8_deck_47 : decode cX8_deck 47 = .ok (.aload_n 0, 1) := by decide +kernel
theorem dX8_deck_48 : decode cX8_deck 48 = .ok (.getfield 122, 3) := by decide +kernel
theorem dX8_deck_51 : decode cX8_deck 51 = .ok (.iload_n 1, 1) := by decide +kernel
theorem dX8_deck_52 : decode cX8_deck 52 = .ok (.iastore, 1) := by decide +kernel
theorem dX8_deck_53 : decode cX8_deck 53 = .ok (.aload_n 0, 1) := by decide +kernel
theorem dX8_deck_54 : decode cX8_deck 54 = .ok (.dup, 1) := by decide +kernel
theorem dX8_deck_55 : decode cX8_deck 55 = .ok (.getfield 122, 3) := by decide +kernel
theorem dX8_deck_58 : decode cX8_deck 58 = .ok (.iconst 1, 1) := by decide +kernel
theorem dX8_deck_59 : decode cX8_deck 59 = .ok (.iadd, 1) := by decide +kernel
theorem dX8_deck_60 : decode cX8_deck 60 = .ok (.putfield 122, 3) := by decide +kernel
theorem dX8_deck_63 : decode cX8_deck 63 = .ok (.aload_n 0, 1) := by decide +kernel
theorem dX8_deck_64 : decode cX8_deck 64 = .ok (.getfield 122, 3) := by decide +kernel
theorem dX8_deck_67 : decode cX8_deck 67 = .ok (.ireturn, 1) := by decide +kernel
theorem dX8_strip_0 : decode cX8_strip 0 = .ok (.aload_n 0, 1) := by decide +kernel
theorem dX8_strip_1 : decode cX8_strip 1 = .ok (.iconst 0, 1) := by decide +kernel
theorem dX8_strip_2 : decode cX8_strip 2 = .ok (.putfield 77, 3) := by decide +kernel
theorem dX8_strip_5 : decode cX8_strip 5 = .ok (.aload_n 0, 1) := by decide +kernel
theorem dX8_strip_6 : decode cX8_strip 6 = .ok (.getfield 122, 3) := by decide +kernel
theorem dX8_strip_9 : decode cX8_strip 9 = .ok (.istore_n 1, 1) := by decide +kernel
theorem dX8_strip_10 : decode cX8_strip 10 = .ok (.aload_n 0, 1) := by decide +kernel
theorem dX8_strip_11 : decode cX8_strip 11 = .ok (.iconst 0, 1) := by decide +kernel
theorem dX8_strip_12 : decode cX8_strip 12 = .ok (.putfield 122, 3) := by decide +kernel
theorem dX8_strip_15 : decode cX8_strip 15 = .ok (.iload_n 1, 1) := by decide +kernel
theorem dX8_strip_16 : decode cX8_strip 16 = .ok (.ireturn, 1) := by decide +kernel
set_option maxRecDepth 20000 in
theorem ggX8_train_X8_in : GoodIn wsX8_train wsX8_in := goodIn_r _ [8] (by decide +kernel) (by decide +kernel)
set_option maxRecDepth 20000 in
theorem gX8_train_X8_in : GoodIn wsX8_train (va_wsS RX8 84 yX8_in wsX8_in) := goodIn_app (goodIn_of _ (by decide +kernel)) ggX8_train_X8_in
theorem dX8_train_0 : decode cX8_train 0 = .ok (.aload_n 0, 1) := by decide +kernel
theorem dX8_train_1 : decode cX8_train 1 = .ok (.iconst 0, 1) := by decide +kernel
theorem dX8_train_2 : decode cX8_train 2 = .ok (.putfield 77, 3) := by decide +kernel
theorem dX8_train_5 : decode cX8_train 5 = .ok (.iload_n 1, 1) := by decide +kernel
theorem dX8_train_6 : decode cX8_train 6 = .ok (.i2l, 1) := by decide +kernel
theorem dX8_train_7 : decode cX8_train 7 = .ok (.lconst 1, 1) := by decide +kernel
theorem dX8_train_8 : decode cX8_train 8 = .ok (.ldc2_w 125, 3) := by decide +kernel
theorem dX8_train_11 : decode cX8_train 11 = .ok (.invokestatic 84, 3) := by decide +kernel
theorem dX8_train_14 : decode cX8_train 14 = .ok (.ifCond .ne 5, 3) := by decide +kernel
theorem dX8_train_17 : decode cX8_train 17 = .ok (.iconst (-1), 1) := by decide +kernel
theorem dX8_train_18 : decode cX8_train 18 = .ok (.ireturn, 1) := by decide +kernel
theorem dX8_train_19 : decode cX8_train 19 = .ok (.iload_n 1, 1) := by decide +kernel
theorem dX8_train_20 : decode cX8_train 20 = .ok (.bipush 10, 2) := by decide +kernel
theorem dX8_train_22 : decode cX8_train 22 = .ok (.if_icmp .ge 7, 3) := by decide +kernel
theorem dX8_train_25 : decode cX8_train 25 = .ok (.iconst 1, 1) := by decide +kernel
theorem dX8_train_26 : decode cX8_train 26 = .ok (.goto 25, 3) := by decide +kernel
theorem dX8_train_29 : decode cX8_train 29 = .ok (.iload_n 1, 1) := by decide +kernel
theorem dX8_train_30 : decode cX8_train 30 = .ok (.bipush 100, 2) := by decide +kernel
theorem dX8_train_32 : decode cX8_train 32 = .ok (.if_icmp .ge 7, 3) := by decide +kernel
theorem dX8_train_35 : decode cX8_train 35 = .ok (.iconst 2, 1) := by decide +kernel
theorem dX8_train_36 : decode cX8_train 36 = .ok (.goto 15, 3) := by decide +kernel
theorem dX8_train_39 : decode cX8_train 39 = .ok (.iload_n 1, 1) := by decide +kernel
theorem dX8_train_40 : decode cX8_train 40 = .ok (.sipush 1000, 3) := by decide +kernel
theorem dX8_train_43 : decode cX8_train 43 = .ok (.if_icmp .ge 7, 3) := by decide +kernel
theorem dX8_train_46 : decode cX8_train 46 = .ok (.iconst 3, 1) := by decide +kernel
theorem dX8_train_47 : decode cX8_train 47 = .ok (.goto 4, 3) := by decide +kernel
theorem dX8_train_50 : decode cX8_train 50 = .ok (.iconst 4, 1) := by decide +kernel
theorem dX8_train_51 : decode cX8_train 51 = .ok (.istore_n 2, 1) := by decide +kernel
theorem dX8_train_52 : decode cX8_train 52 = .ok (.iload_n 1, 1) := by decide +kernel
theorem dX8_train_53 : decode cX8_train 53 = .ok (.istore_n 3, 1) := by decide +kernel
theorem dX8_train_54 : decode cX8_train 54 = .ok (.iconst 0, 1) := by decide +kernel
theorem dX8_train_55 : decode cX8_train 55 = .ok (.istore 4, 2) := by decide +kernel
theorem dX8_train_57 : decode cX8_train 57 = .ok (.iload 4, 2) := by decide +kernel
theorem dX8_train_59 : decode cX8_train 59 = .ok (.iload_n 2, 1) := by decide +kernel
theorem dX8_train_60 : decode cX8_train 60 = .ok (.if_icmp .ge 23, 3) := by decide +kernel
theorem dX8_train_63 : decode cX8_train 63 = .ok (.iload_n 3, 1) := by decide +kernel
theorem dX8_train_64 : decode cX8_train 64 = .ok (.bipush 10, 2) := by decide +kernel
theorem dX8_train_66 : decode cX8_train 66 = .ok (.irem, 1) := by decide +kernel
theorem dX8_train_67 : decode cX8_train 67 = .ok (.ifCond .ne 5, 3) := by decide +kernel
theorem dX8_train_70 : decode cX8_train 70 = .ok (.iconst (-1), 1) := by decide +kernel
theorem dX8_train_71 : decode cX8_train 71 = .ok (.ireturn, 1) := by decide +kernel
theorem dX8_train_72 : decode cX8_train 72 = .ok (.iload_n 3, 1) := by decide +kernel
theorem dX8_train_73 : decode cX8_train 73 = .ok (.bipush 10, 2) := by decide +kernel
theorem dX8_train_75 : decode cX8_train 75 = .ok (.idiv, 1) := by decide +kernel
theorem dX8_train_76 : decode cX8_train 76 = .ok (.istore_n 3, 1) := by decide +kernel
theorem dX8_train_77 : decode cX8_train 77 = .ok (.iinc 4 1, 3) := by decide +kernel
theorem dX8_train_80 : decode cX8_train 80 = .ok (.goto (-23), 3) := by decide +kernel
theorem dX8_train_83 : decode cX8_train 83 = .ok (.iload_n 1, 1) := by decide +kernel
theorem dX8_train_84 : decode cX8_train 84 = .ok (.istore_n 3, 1) := by decide +kernel
theorem dX8_train_85 : decode cX8_train 85 = .ok (.iload_n 2, 1) := by decide +kernel
theorem dX8_train_86 : decode cX8_train 86 = .ok (.iconst 1, 1) := by decide +kernel
theorem dX8_train_87 : decode cX8_train 87 = .ok (.isub, 1) := by decide +kernel
theorem dX8_train_88 : decode cX8_train 88 = .ok (.istore 4, 2) := by decide +kernel
theorem dX8_train_90 : decode cX8_train 90 = .ok (.iload 4, 2) := by decide +kernel
theorem dX8_train_92 : decode cX8_train 92 = .ok (.ifCond .lt 25, 3) := by decide +kernel
theorem dX8_train_95 : decode cX8_train 95 = .ok (.aload_n 0, 1) := by decide +kernel
theorem dX8_train_96 : decode cX8_train 96 = .ok (.getfield 37, 3) := by decide +kernel
theorem dX8_train_99 : decode cX8_train 99 = .ok (.iload 4, 2) := by decide +kernel
theorem dX8_train_101 : decode cX8_train 101 = .ok (.iload_n 3, 1) := by decide +kernel
theorem dX8_train_102 : decode cX8_train 102 = .ok (.bipush 10, 2) := by decide +kernel
theorem dX8_train_104 : decode cX8_train 104 = .ok (.irem, 1) := by decide +kernel
theorem dX8_train_105 : decode cX8_train 105 = .ok (.iastore, 1) := by decide +kernel
theorem dX8_train_106 : decode cX8_train 106 = .ok (.iload_n 3, 1) := by decide +kernel
theorem dX8_train_107 : decode cX8_train 107 = .ok (.bipush 10, 2) := by decide +kernel
theorem dX8_train_109 : decode cX8_train 109 = .ok (.idiv, 1) := by decide +kernel
theorem dX8_train_110 : decode cX8_train 110 = .ok (.istore_n 3, 1) := by decide +kernel
theorem dX8_train_111 : decode cX8_train 111 = .ok (.iinc 4 (-1), 3) := by decide +kernel
theorem dX8_train_114 : decode cX8_train 114 = .ok (.goto (-24), 3) := by decide +kernel
theorem dX8_train_117 : decode cX8_train 117 = .ok (.aload_n 0, 1) := by decide +kernel
theorem dX8_train_118 : decode cX8_train 118 = .ok (.iload_n 2, 1) := by decide +kernel
theorem dX8_train_119 : decode cX8_train 119 = .ok (.putfield 127, 3) := by decide +kernel
theorem dX8_train_122 : decode cX8_train 122 = .ok (.iload_n 2, 1) := by decide +kernel
theorem dX8_train_123 : decode cX8_train 123 = .ok (.ireturn, 1) := by decide +kernel
set_option maxRecDepth 20000 in
theorem ggX8_laysFree_X8_isOn : GoodIn wsX8_laysFree wsX8_isOn := goodIn_r _ [9] (by decide +kernel) (by decide +kernel)
set_option maxRecDepth 20000 in
theorem gX8_laysFree_X8_isOn : GoodIn wsX8_laysFree (va_wsS RX8 113 yX8_isOn wsX8_isOn) := goodIn_app (goodIn_of _ (by decide +kernel)) ggX8_laysFree_X8_isOn
theorem dX8_laysFree_0 : decode cX8_laysFree 0 = .ok (.aload_n 0, 1) := by decide +kernel
theorem dX8_laysFree_1 : decode cX8_laysFree 1 = .ok (.iconst 0, 1) := by decide +kernel
theorem dX8_laysFree_2 : decode cX8_laysFree 2 = .ok (.putfield 130, 3) := by decide +kernel
theorem dX8_laysFree_5 : decode cX8_laysFree 5 = .ok (.iconst 0, 1) := by decide +kernel
theorem dX8_laysFree_6 : decode cX8_laysFree 6 = .ok (.istore_n 1, 1) := by decide +kernel
theorem dX8_laysFree_7 : decode cX8_laysFree 7 = .ok (.iload_n 1, 1) := by decide +kernel
theorem dX8_laysFree_8 : decode cX8_laysFree 8 = .ok (.aload_n 0, 1) := by decide +kernel
theorem dX8_laysFree_9 : decode cX8_laysFree 9 = .ok (.getfield 81, 3) := by decide +kernel
theorem dX8_laysFree_12 : decode cX8_laysFree 12 = .ok (.if_icmp .ge 65, 3) := by decide +kernel
theorem dX8_laysFree_15 : decode cX8_laysFree 15 = .ok (.iconst 0, 1) := by decide +kernel
theorem dX8_laysFree_16 : decode cX8_laysFree 16 = .ok (.istore_n 2, 1) := by decide +kernel
theorem dX8_laysFree_17 : decode cX8_laysFree 17 = .ok (.iload_n 2, 1) := by decide +kernel
theorem dX8_laysFree_18 : decode cX8_laysFree 18 = .ok (.iconst 2, 1) := by decide +kernel
theorem dX8_laysFree_19 : decode cX8_laysFree 19 = .ok (.if_icmp .ge 52, 3) := by decide +kernel
theorem dX8_laysFree_22 : decode cX8_laysFree 22 = .ok (.aload_n 0, 1) := by decide +kernel
theorem dX8_laysFree_23 : decode cX8_laysFree 23 = .ok (.getfield 16, 3) := by decide +kernel
theorem dX8_laysFree_26 : decode cX8_laysFree 26 = .ok (.iload_n 1, 1) := by decide +kernel
theorem dX8_laysFree_27 : decode cX8_laysFree 27 = .ok (.iaload, 1) := by decide +kernel
theorem dX8_laysFree_28 : decode cX8_laysFree 28 = .ok (.iload_n 2, 1) := by decide +kernel
theorem dX8_laysFree_29 : decode cX8_laysFree 29 = .ok (.invokestatic 113, 3) := by decide +kernel
theorem dX8_laysFree_32 : decode cX8_laysFree 32 = .ok (.ifCond .ne 33, 3) := by decide +kernel
theorem dX8_laysFree_35 : decode cX8_laysFree 35 = .ok (.aload_n 0, 1) := by decide +kernel
theorem dX8_laysFree_36 : decode cX8_laysFree 36 = .ok (.getfield 40, 3) := by decide +kernel
theorem dX8_laysFree_39 : decode cX8_laysFree 39 = .ok (.aload_n 0, 1) := by decide +kernel
theorem dX8_laysFree_40 : decode cX8_laysFree 40 = .ok (.getfield 130, 3) := by decide +kernel
theorem dX8_laysFree_43 : decode cX8_laysFree 43 = .ok (.iload_n 1, 1) := by decide +kernel
theorem dX8_laysFree_44 : decode cX8_laysFree 44 = .ok (.iastore, 1) := by decide +kernel
theorem dX8_laysFree_45 : decode cX8_laysFree 45 = .ok (.aload_n 0, 1) := by decide +kernel
theorem dX8_laysFree_46 : decode cX8_laysFree 46 = .ok (.getfield 43, 3) := by decide +kernel
theorem dX8_laysFree_49 : decode cX8_laysFree 49 = .ok (.aload_n 0, 1) := by decide +kernel
theorem dX8_laysFree_50 : decode cX8_laysFree 50 = .ok (.getfield 130, 3) := by decide +kernel
theorem dX8_laysFree_53 : decode cX8_laysFree 53 = .ok (.iload_n 2, 1) := by decide +kernel
theorem dX8_laysFree_54 : decode cX8_laysFree 54 = .ok (.iastore, 1) := by decide +kernel
theorem dX8_laysFree_55 : decode cX8_laysFree 55 = .ok (.aload_n 0, 1) := by decide +kernel
theorem dX8_laysFree_56 : decode cX8_laysFree 56 = .ok (.dup, 1) := by decide +kernel
theorem dX8_laysFree_57 : decode cX8_laysFree 57 = .ok (.getfield 130, 3) := by decide +kernel
theorem dX8_laysFree_60 : decode cX8_laysFree 60 = .ok (.iconst 1, 1) := by decide +kernel
theorem dX8_laysFree_61 : decode cX8_laysFree 61 = .ok (.iadd, 1) := by decide +kernel
theorem dX8_laysFree_62 : decode cX8_laysFree 62 = .ok (.putfield 130, 3) := by decide +kernel
theorem dX8_laysFree_65 : decode cX8_laysFree 65 = .ok (.iinc 2 1, 3) := by decide +kernel
theorem dX8_laysFree_68 : decode cX8_laysFree 68 = .ok (.goto (-51), 3) := by decide +kernel
theorem dX8_laysFree_71 : decode cX8_laysFree 71 = .ok (.iinc 1 1, 3) := by decide +kernel
theorem dX8_laysFree_74 : decode cX8_laysFree 74 = .ok (.goto (-67), 3) := by decide +kernel
theorem dX8_laysFree_77 : decode cX8_laysFree 77 = .ok (.return_, 1) := by decide +kernel
theorem dX8_brings_0 : decode cX8_brings 0 = .ok (.aload_n 0, 1) := by decide +kernel
theorem dX8_brings_1 : decode cX8_brings 1 = .ok (.getfield 22, 3) := by decide +kernel
theorem dX8_brings_4 : decode cX8_brings 4 = .ok (.iload_n 1, 1) := by decide +kernel
theorem dX8_brings_5 : decode cX8_brings 5 = .ok (.iaload, 1) := by decide +kernel
theorem dX8_brings_6 : decode cX8_brings 6 = .ok (.istore 4, 2) := by decide +kernel
theorem dX8_brings_8 : decode cX8_brings 8 = .ok (.aload_n 0, 1) := by decide +kernel
theorem dX8_brings_9 : decode cX8_brings 9 = .ok (.getfield 25, 3) := by decide +kernel
theorem dX8_brings_12 : decode cX8_brings 12 = .ok (.iload_n 1, 1) := by decide +kernel
theorem dX8_brings_13 : decode cX8_brings 13 = .ok (.iaload, 1) := by decide +kernel
theorem dX8_brings_14 : decode cX8_brings 14 = .ok (.istore 5, 2) := by decide +kernel
theorem dX8_brings_16 : decode cX8_brings 16 = .ok (.iload_n 2, 1) := by decide +kernel
theorem dX8_brings_17 : decode cX8_brings 17 = .ok (.iload 4, 2) := by decide +kernel
theorem dX8_brings_19 : decode cX8_brings 19 = .ok (.if_icmp .eq 11, 3) := by decide +kernel
theorem dX8_brings_22 : decode cX8_brings 22 = .ok (.iload_n 2, 1) := by decide +kernel
theorem dX8_brings_23 : decode cX8_brings 23 = .ok (.iload 5, 2) := by decide +kernel
theorem dX8_brings_25 : decode cX8_brings 25 = .ok (.if_icmp .eq 5, 3) := by decide +kernel
theorem dX8_brings_28 : decode cX8_brings 28 = .ok (.iconst 0, 1) := by decide +kernel
theorem dX8_brings_29 : decode cX8_brings 29 = .ok (.ireturn, 1) := by decide +kernel
theorem dX8_brings_30 : decode cX8_brings 30 = .ok (.iload_n 3, 1) := by decide +kernel
theorem dX8_brings_31 : decode cX8_brings 31 = .ok (.ifCond .ne 21, 3) := by decide +kernel
theorem dX8_brings_34 : decode cX8_brings 34 = .ok (.aload_n 0, 1) := by decide +kernel
theorem dX8_brings_35 : decode cX8_brings 35 = .ok (.getfield 7, 3) := by decide +kernel
theorem dX8_brings_38 : decode cX8_brings 38 = .ok (.iload 5, 2) := by decide +kernel
theorem dX8_brings_40 : decode cX8_brings 40 = .ok (.iaload, 1) := by decide +kernel
theorem dX8_brings_41 : decode cX8_brings 41 = .ok (.aload_n 0, 1) := by decide +kernel
theorem dX8_brings_42 : decode cX8_brings 42 = .ok (.getfield 7, 3) := by decide +kernel
theorem dX8_brings_45 : decode cX8_brings 45 = .ok (.iload 4, 2) := by decide +kernel
theorem dX8_brings_47 : decode cX8_brings 47 = .ok (.iaload, 1) := by decide +kernel
theorem dX8_brings_48 : decode cX8_brings 48 = .ok (.isub, 1) := by decide +kernel
theorem dX8_brings_49 : decode cX8_brings 49 = .ok (.goto 18, 3) := by decide +kernel
theorem dX8_brings_52 : decode cX8_brings 52 = .ok (.aload_n 0, 1) := by decide +kernel
theorem dX8_brings_53 : decode cX8_brings 53 = .ok (.getfield 13, 3) := by decide +kernel
theorem dX8_brings_56 : decode cX8_brings 56 = .ok (.iload 5, 2) := by decide +kernel
theorem dX8_brings_58 : decode cX8_brings 58 = .ok (.iaload, 1) := by decide +kernel
theorem dX8_brings_59 : decode cX8_brings 59 = .ok (.aload_n 0, 1) := by decide +kernel
theorem dX8_brings_60 : decode cX8_brings 60 = .ok (.getfield 13, 3) := by decide +kernel
theorem dX8_brings_63 : decode cX8_brings 63 = .ok (.iload 4, 2) := by decide +kernel
theorem dX8_brings_65 : decode cX8_brings 65 = .ok (.iaload, 1) := by decide +kernel
theorem dX8_brings_66 : decode cX8_brings 66 = .ok (.isub, 1) := by decide +kernel
theorem dX8_brings_67 : decode cX8_brings 67 = .ok (.istore 6, 2) := by decide +kernel
theorem dX8_brings_69 : decode cX8_brings 69 = .ok (.iload_n 2, 1) := by decide +kernel
theorem dX8_brings_70 : decode cX8_brings 70 = .ok (.iload 4, 2) := by decide +kernel
theorem dX8_brings_72 : decode cX8_brings 72 = .ok (.if_icmp .ne 8, 3) := by decide +kernel
theorem dX8_brings_75 : decode cX8_brings 75 = .ok (.iload 6, 2) := by decide +kernel
theorem dX8_brings_77 : decode cX8_brings 77 = .ok (.goto 6, 3) := by decide +kernel
theorem dX8_brings_80 : decode cX8_brings 80 = .ok (.iload 6, 2) := by decide +kernel
theorem dX8_brings_82 : decode cX8_brings 82 = .ok (.ineg, 1) := by decide +kernel
theorem dX8_brings_83 : decode cX8_brings 83 = .ok (.ireturn, 1) := by decide +kernel
theorem dX8_swaps_0 : decode cX8_swaps 0 = .ok (.iconst 0, 1) := by decide +kernel
theorem dX8_swaps_1 : decode cX8_swaps 1 = .ok (.istore 4, 2) := by decide +kernel
theorem dX8_swaps_3 : decode cX8_swaps 3 = .ok (.iload 4, 2) := by decide +kernel
theorem dX8_swaps_5 : decode cX8_swaps 5 = .ok (.iload_n 3, 1) := by decide +kernel
theorem dX8_swaps_6 : decode cX8_swaps 6 = .ok (.if_icmp .ge 61, 3) := by decide +kernel
theorem dX8_swaps_9 : decode cX8_swaps 9 = .ok (.aload_n 0, 1) := by decide +kernel
theorem dX8_swaps_10 : decode cX8_swaps 10 = .ok (.getfield 46, 3) := by decide +kernel
theorem dX8_swaps_13 : decode cX8_swaps 13 = .ok (.bipush 12, 2) := by decide +kernel
theorem dX8_swaps_15 : decode cX8_swaps 15 = .ok (.iload_n 1, 1) := by decide +kernel
theorem dX8_swaps_16 : decode cX8_swaps 16 = .ok (.imul, 1) := by decide +kernel
theorem dX8_swaps_17 : decode cX8_swaps 17 = .ok (.iload 4, 2) := by decide +kernel
theorem dX8_swaps_19 : decode cX8_swaps 19 = .ok (.iadd, 1) := by decide +kernel
theorem dX8_swaps_20 : decode cX8_swaps 20 = .ok (.laload, 1) := by decide +kernel
theorem dX8_swaps_21 : decode cX8_swaps 21 = .ok (.lstore 5, 2) := by decide +kernel
theorem dX8_swaps_23 : decode cX8_swaps 23 = .ok (.aload_n 0, 1) := by decide +kernel
theorem dX8_swaps_24 : decode cX8_swaps 24 = .ok (.getfield 46, 3) := by decide +kernel
theorem dX8_swaps_27 : decode cX8_swaps 27 = .ok (.bipush 12, 2) := by decide +kernel
theorem dX8_swaps_29 : decode cX8_swaps 29 = .ok (.iload_n 1, 1) := by decide +kernel
theorem dX8_swaps_30 : decode cX8_swaps 30 = .ok (.imul, 1) := by decide +kernel
theorem dX8_swaps_31 : decode cX8_swaps 31 = .ok (.iload 4, 2) := by decide +kernel
theorem dX8_swaps_33 : decode cX8_swaps 33 = .ok (.iadd, 1) := by decide +kernel
theorem dX8_swaps_34 : decode cX8_swaps 34 = .ok (.aload_n 0, 1) := by decide +kernel
theorem dX8_swaps_35 : decode cX8_swaps 35 = .ok (.getfield 46, 3) := by decide +kernel
theorem dX8_swaps_38 : decode cX8_swaps 38 = .ok (.bipush 12, 2) := by decide +kernel
theorem dX8_swaps_40 : decode cX8_swaps 40 = .ok (.iload_n 2, 1) := by decide +kernel
theorem dX8_swaps_41 : decode cX8_swaps 41 = .ok (.imul, 1) := by decide +kernel
theorem dX8_swaps_42 : decode cX8_swaps 42 = .ok (.iload 4, 2) := by decide +kernel
theorem dX8_swaps_44 : decode cX8_swaps 44 = .ok (.iadd, 1) := by decide +kernel
theorem dX8_swaps_45 : decode cX8_swaps 45 = .ok (.laload, 1) := by decide +kernel
theorem dX8_swaps_46 : decode cX8_swaps 46 = .ok (.lastore, 1) := by decide +kernel
theorem dX8_swaps_47 : decode cX8_swaps 47 = .ok (.aload_n 0, 1) := by decide +kernel
theorem dX8_swaps_48 : decode cX8_swaps 48 = .ok (.getfield 46, 3) := by decide +kernel
theorem dX8_swaps_51 : decode cX8_swaps 51 = .ok (.bipush 12, 2) := by decide +kernel
theorem dX8_swaps_53 : decode cX8_swaps 53 = .ok (.iload_n 2, 1) := by decide +kernel
theorem dX8_swaps_54 : decode cX8_swaps 54 = .ok (.imul, 1) := by decide +kernel
theorem dX8_swaps_55 : decode cX8_swaps 55 = .ok (.iload 4, 2) := by decide +kernel
theorem dX8_swaps_57 : decode cX8_swaps 57 = .ok (.iadd, 1) := by decide +kernel
theorem dX8_swaps_58 : decode cX8_swaps 58 = .ok (.lload 5, 2) := by decide +kernel
theorem dX8_swaps_60 : decode cX8_swaps 60 = .ok (.lastore, 1) := by decide +kernel
theorem dX8_swaps_61 : decode cX8_swaps 61 = .ok (.iinc 4 1, 3) := by decide +kernel
theorem dX8_swaps_64 : decode cX8_swaps 64 = .ok (.goto (-61), 3) := by decide +kernel
theorem dX8_swaps_67 : decode cX8_swaps 67 = .ok (.return_, 1) := by decide +kernel
set_option maxRecDepth 20000 in
theorem ggX8_determinant_X8_swaps : GoodIn wsX8_determinant wsX8_swaps := goodIn_r _ [6, 1, 7, 8, 9, 10, 11, 12, 13, 14, 15, 16, 17, 18, 19, 20, 21, 22, 23, 24, 25, 26, 27, 28, 29, 30, 31, 32, 33, 34, 35, 36, 37, 38, 39, 40, 41] (by decide +kernel) (by decide +kernel)
set_option maxRecDepth 20000 in
theorem gX8_determinant_X8_swaps : GoodIn wsX8_determinant (wsV RX8 133 RX8 yX8_swaps wsX8_swaps) := goodIn_app (goodIn_of _ (by decide +kernel)) ggX8_determinant_X8_swaps
theorem dX8_determinant_0 : decode cX8_determinant 0 = .ok (.lconst 1, 1) := by decide +kernel
theorem dX8_determinant_1 : decode cX8_determinant 1 = .ok (.lstore_n 2, 1) := by decide +kernel
theorem dX8_determinant_2 : decode cX8_determinant 2 = .ok (.lconst 1, 1) := by decide +kernel
theorem dX8_determinant_3 : decode cX8_determinant 3 = .ok (.lstore 4, 2) := by decide +kernel
theorem dX8_determinant_5 : decode cX8_determinant 5 = .ok (.iconst 0, 1) := by decide +kernel
theorem dX8_determinant_6 : decode cX8_determinant 6 = .ok (.istore 6, 2) := by decide +kernel
theorem dX8_determinant_8 : decode cX8_determinant 8 = .ok (.iload 6, 2) := by decide +kernel
theorem dX8_determinant_10 : decode cX8_determinant 10 = .ok (.iload_n 1, 1) := by decide +kernel
theorem dX8_determinant_11 : decode cX8_determinant 11 = .ok (.if_icmp .ge 192, 3) := by decide +kernel
theorem dX8_determinant_14 : decode cX8_determinant 14 = .ok (.iload 6, 2) := by decide +kernel
theorem dX8_determinant_16 : decode cX8_determinant 16 = .ok (.istore 7, 2) := by decide +kernel
theorem dX8_determinant_18 : decode cX8_determinant 18 = .ok (.iload 7, 2) := by decide +kernel
theorem dX8_determinant_20 : decode cX8_determinant 20 = .ok (.iload_n 1, 1) := by decide +kernel
theorem dX8_determinant_21 : decode cX8_determinant 21 = .ok (.if_icmp .ge 27, 3) := by decide +kernel
theorem dX8_determinant_24 : decode cX8_determinant 24 = .ok (.aload_n 0, 1) := by decide +kernel
theorem dX8_determinant_25 : decode cX8_determinant 25 = .ok (.getfield 46, 3) := by decide +kernel
theorem dX8_determinant_28 : decode cX8_determinant 28 = .ok (.bipush 12, 2) := by decide +kernel
theorem dX8_determinant_30 : decode cX8_determinant 30 = .ok (.iload 7, 2) := by decide +kernel
theorem dX8_determinant_32 : decode cX8_determinant 32 = .ok (.imul, 1) := by decide +kernel
theorem dX8_determinant_33 : decode cX8_determinant 33 = .ok (.iload 6, 2) := by decide +kernel
theorem dX8_determinant_35 : decode cX8_determinant 35 = .ok (.iadd, 1) := by decide +kernel
theorem dX8_determinant_36 : decode cX8_determinant 36 = .ok (.laload, 1) := by decide +kernel
theorem dX8_determinant_37 : decode cX8_determinant 37 = .ok (.lconst 0, 1) := by decide +kernel
theorem dX8_determinant_38 : decode cX8_determinant 38 = .ok (.lcmp, 1) := by decide +kernel
theorem dX8_determinant_39 : decode cX8_determinant 39 = .ok (.ifCond .ne 9, 3) := by decide +kernel
theorem dX8_determinant_42 : decode cX8_determinant 42 = .ok (.iinc 7 1, 3) := by decide +kernel
theorem dX8_determinant_45 : decode cX8_determinant 45 = .ok (.goto (-27), 3) := by decide +kernel
theorem dX8_determinant_48 : decode cX8_determinant 48 = .ok (.iload 7, 2) := by decide +kernel
theorem dX8_determinant_50 : decode cX8_determinant 50 = .ok (.iload_n 1, 1) := by decide +kernel
theorem dX8_determinant_51 : decode cX8_determinant 51 = .ok (.if_icmp .ne 5, 3) := by decide +kernel
theorem dX8_determinant_54 : decode cX8_determinant 54 = .ok (.lconst 0, 1) := by decide +kernel
theorem dX8_determinant_55 : decode cX8_determinant 55 = .ok (.lreturn, 1) := by decide +kernel
theorem dX8_determinant_56 : decode cX8_determinant 56 = .ok (.iload 7, 2) := by decide +kernel
theorem dX8_determinant_58 : decode cX8_determinant 58 = .ok (.iload 6, 2) := by decide +kernel
theorem dX8_determinant_60 : decode cX8_determinant 60 = .ok (.if_icmp .eq 15, 3) := by decide +kernel
theorem dX8_determinant_63 : decode cX8_determinant 63 = .ok (.aload_n 0, 1) := by decide +kernel
theorem dX8_determinant_64 : decode cX8_determinant 64 = .ok (.iload 7, 2) := by decide +kernel
theorem dX8_determinant_66 : decode cX8_determinant 66 = .ok (.iload 6, 2) := by decide +kernel
theorem dX8_determinant_68 : decode cX8_determinant 68 = .ok (.iload_n 1, 1) := by decide +kernel
theorem dX8_determinant_69 : decode cX8_determinant 69 = .ok (.invokevirtual 133, 3) := by decide +kernel
theorem dX8_determinant_72 : decode cX8_determinant 72 = .ok (.lload_n 2, 1) := by decide +kernel
theorem dX8_determinant_73 : decode cX8_determinant 73 = .ok (.lneg, 1) := by decide +kernel
theorem dX8_determinant_74 : decode cX8_determinant 74 = .ok (.lstore_n 2, 1) := by decide +kernel
theorem dX8_determinant_75 : decode cX8_determinant 75 = .ok (.iload 6, 2) := by decide +kernel
theorem dX8_determinant_77 : decode cX8_determinant 77 = .ok (.iconst 1, 1) := by decide +kernel
theorem dX8_determinant_78 : decode cX8_determinant 78 = .ok (.iadd, 1) := by decide +kernel
theorem dX8_determinant_79 : decode cX8_determinant 79 = .ok (.istore 8, 2) := by decide +kernel
theorem dX8_determinant_81 : decode cX8_determinant 81 = .ok (.iload 8, 2) := by decide +kernel
theorem dX8_determinant_83 : decode cX8_determinant 83 = .ok (.iload_n 1, 1) := by decide +kernel
theorem dX8_determinant_84 : decode cX8_determinant 84 = .ok (.if_icmp .ge 98, 3) := by decide +kernel
theorem dX8_determinant_87 : decode cX8_determinant 87 = .ok (.iload 6, 2) := by decide +kernel
theorem dX8_determinant_89 : decode cX8_determinant 89 = .ok (.iconst 1, 1) := by decide +kernel
theorem dX8_determinant_90 : decode cX8_determinant 90 = .ok (.iadd, 1) := by decide +kernel
theorem dX8_determinant_91 : decode cX8_determinant 91 = .ok (.istore 9, 2) := by decide +kernel
theorem dX8_determinant_93 : decode cX8_determinant 93 = .ok (.iload 9, 2) := by decide +kernel
theorem dX8_determinant_95 : decode cX8_determinant 95 = .ok (.iload_n 1, 1) := by decide +kernel
theorem dX8_determinant_96 : decode cX8_determinant 96 = .ok (.if_icmp .ge 80, 3) := by decide +kernel
theorem dX8_determinant_99 : decode cX8_determinant 99 = .ok (.aload_n 0, 1) := by decide +kernel
theorem dX8_determinant_100 : decode cX8_determinant 100 = .ok (.getfield 46, 3) := by decide +kernel
theorem dX8_determinant_103 : decode cX8_determinant 103 = .ok (.bipush 12, 2) := by decide +kernel
theorem dX8_determinant_105 : decode cX8_determinant 105 = .ok (.iload 8, 2) := by decide +kernel
theorem dX8_determinant_107 : decode cX8_determinant 107 = .ok (.imul, 1) := by decide +kernel
theorem dX8_determinant_108 : decode cX8_determinant 108 = .ok (.iload 9, 2) := by decide +kernel
theorem dX8_determinant_110 : decode cX8_determinant 110 = .ok (.iadd, 1) := by decide +kernel
theorem dX8_determinant_111 : decode cX8_determinant 111 = .ok (.aload_n 0, 1) := by decide +kernel
theorem dX8_determinant_112 : decode cX8_determinant 112 = .ok (.getfield 46, 3) := by decide +kernel
theorem dX8_determinant_115 : decode cX8_determinant 115 = .ok (.bipush 12, 2) := by decide +kernel
theorem dX8_determinant_117 : decode cX8_determinant 117 = .ok (.iload 8, 2) := by decide +kernel
theorem dX8_determinant_119 : decode cX8_determinant 119 = .ok (.imul, 1) := by decide +kernel
theorem dX8_determinant_120 : decode cX8_determinant 120 = .ok (.iload 9, 2) := by decide +kernel
theorem dX8_determinant_122 : decode cX8_determinant 122 = .ok (.iadd, 1) := by decide +kernel
theorem dX8_determinant_123 : decode cX8_determinant 123 = .ok (.laload, 1) := by decide +kernel
theorem dX8_determinant_124 : decode cX8_determinant 124 = .ok (.aload_n 0, 1) := by decide +kernel
theorem dX8_determinant_125 : decode cX8_determinant 125 = .ok (.getfield 46, 3) := by decide +kernel
theorem dX8_determinant_128 : decode cX8_determinant 128 = .ok (.bipush 12, 2) := by decide +kernel
theorem dX8_determinant_130 : decode cX8_determinant 130 = .ok (.iload 6, 2) := by decide +kernel
theorem dX8_determinant_132 : decode cX8_determinant 132 = .ok (.imul, 1) := by decide +kernel
theorem dX8_determinant_133 : decode cX8_determinant 133 = .ok (.iload 6, 2) := by decide +kernel
theorem dX8_determinant_135 : decode cX8_determinant 135 = .ok (.iadd, 1) := by decide +kernel
theorem dX8_determinant_136 : decode cX8_determinant 136 = .ok (.laload, 1) := by decide +kernel
theorem dX8_determinant_137 : decode cX8_determinant 137 = .ok (.lmul, 1) := by decide +kernel
theorem dX8_determinant_138 : decode cX8_determinant 138 = .ok (.aload_n 0, 1) := by decide +kernel
theorem dX8_determinant_139 : decode cX8_determinant 139 = .ok (.getfield 46, 3) := by decide +kernel
theorem dX8_determinant_142 : decode cX8_determinant 142 = .ok (.bipush 12, 2) := by decide +kernel
theorem dX8_determinant_144 : decode cX8_determinant 144 = .ok (.iload 8, 2) := by decide +kernel
theorem dX8_determinant_146 : decode cX8_determinant 146 = .ok (.imul, 1) := by decide +kernel
theorem dX8_determinant_147 : decode cX8_determinant 147 = .ok (.iload 6, 2) := by decide +kernel
theorem dX8_determinant_149 : decode cX8_determinant 149 = .ok (.iadd, 1) := by decide +kernel
theorem dX8_determinant_150 : decode cX8_determinant 150 = .ok (.laload, 1) := by decide +kernel
theorem dX8_determinant_151 : decode cX8_determinant 151 = .ok (.aload_n 0, 1) := by decide +kernel
theorem dX8_determinant_152 : decode cX8_determinant 152 = .ok (.getfield 46, 3) := by decide +kernel
theorem dX8_determinant_155 : decode cX8_determinant 155 = .ok (.bipush 12, 2) := by decide +kernel
theorem dX8_determinant_157 : decode cX8_determinant 157 = .ok (.iload 6, 2) := by decide +kernel
theorem dX8_determinant_159 : decode cX8_determinant 159 = .ok (.imul, 1) := by decide +kernel
theorem dX8_determinant_160 : decode cX8_determinant 160 = .ok (.iload 9, 2) := by decide +kernel
theorem dX8_determinant_162 : decode cX8_determinant 162 = .ok (.iadd, 1) := by decide +kernel
theorem dX8_determinant_163 : decode cX8_determinant 163 = .ok (.laload, 1) := by decide +kernel
theorem dX8_determinant_164 : decode cX8_determinant 164 = .ok (.lmul, 1) := by decide +kernel
theorem dX8_determinant_165 : decode cX8_determinant 165 = .ok (.lsub, 1) := by decide +kernel
theorem dX8_determinant_166 : decode cX8_determinant 166 = .ok (.lload 4, 2) := by decide +kernel
theorem dX8_determinant_168 : decode cX8_determinant 168 = .ok (.ldiv, 1) := by decide +kernel
theorem dX8_determinant_169 : decode cX8_determinant 169 = .ok (.lastore, 1) := by decide +kernel
theorem dX8_determinant_170 : decode cX8_determinant 170 = .ok (.iinc 9 1, 3) := by decide +kernel
theorem dX8_determinant_173 : decode cX8_determinant 173 = .ok (.goto (-80), 3) := by decide +kernel
theorem dX8_determinant_176 : decode cX8_determinant 176 = .ok (.iinc 8 1, 3) := by decide +kernel
theorem dX8_determinant_179 : decode cX8_determinant 179 = .ok (.goto (-98), 3) := by decide +kernel
theorem dX8_determinant_182 : decode cX8_determinant 182 = .ok (.aload_n 0, 1) := by decide +kernel
theorem dX8_determinant_183 : decode cX8_determinant 183 = .ok (.getfield 46, 3) := by decide +kernel
theorem dX8_determinant_186 : decode cX8_determinant 186 = .ok (.bipush 12, 2) := by decide +kernel
theorem dX8_determinant_188 : decode cX8_determinant 188 = .ok (.iload 6, 2) := by decide +kernel
theorem dX8_determinant_190 : decode cX8_determinant 190 = .ok (.imul, 1) := by decide +kernel
theorem dX8_determinant_191 : decode cX8_determinant 191 = .ok (.iload 6, 2) := by decide +kernel
theorem dX8_determinant_193 : decode cX8_determinant 193 = .ok (.iadd, 1) := by decide +kernel
theorem dX8_determinant_194 : decode cX8_determinant 194 = .ok (.laload, 1) := by decide +kernel
theorem dX8_determinant_195 : decode cX8_determinant 195 = .ok (.lstore 4, 2) := by decide +kernel
theorem dX8_determinant_197 : decode cX8_determinant 197 = .ok (.iinc 6 1, 3) := by decide +kernel
theorem dX8_determinant_200 : decode cX8_determinant 200 = .ok (.goto (-192), 3) := by decide +kernel
theorem dX8_determinant_203 : decode cX8_determinant 203 = .ok (.lload_n 2, 1) := by decide +kernel
theorem dX8_determinant_204 : decode cX8_determinant 204 = .ok (.iload_n 1, 1) := by decide +kernel
theorem dX8_determinant_205 : decode cX8_determinant 205 = .ok (.ifCond .ne 7, 3) := by decide +kernel
theorem dX8_determinant_208 : decode cX8_determinant 208 = .ok (.lconst 1, 1) := by decide +kernel
theorem dX8_determinant_209 : decode cX8_determinant 209 = .ok (.goto 18, 3) := by decide +kernel
theorem dX8_determinant_212 : decode cX8_determinant 212 = .ok (.aload_n 0, 1) := by decide +kernel
theorem dX8_determinant_213 : decode cX8_determinant 213 = .ok (.getfield 46, 3) := by decide +kernel
theorem dX8_determinant_216 : decode cX8_determinant 216 = .ok (.bipush 12, 2) := by decide +kernel
theorem dX8_determinant_218 : decode cX8_determinant 218 = .ok (.iload_n 1, 1) := by decide +kernel
theorem dX8_determinant_219 : decode cX8_determinant 219 = .ok (.iconst 1, 1) := by decide +kernel
theorem dX8_determinant_220 : decode cX8_determinant 220 = .ok (.isub, 1) := by decide +kernel
theorem dX8_determinant_221 : decode cX8_determinant 221 = .ok (.imul, 1) := by decide +kernel
theorem dX8_determinant_222 : decode cX8_determinant 222 = .ok (.iload_n 1, 1) := by decide +kernel
theorem dX8_determinant_223 : decode cX8_determinant 223 = .ok (.iadd, 1) := by decide +kernel
theorem dX8_determinant_224 : decode cX8_determinant 224 = .ok (.iconst 1, 1) := by decide +kernel
theorem dX8_determinant_225 : decode cX8_determinant 225 = .ok (.isub, 1) := by decide +kernel
theorem dX8_determinant_226 : decode cX8_determinant 226 = .ok (.laload, 1) := by decide +kernel
theorem dX8_determinant_227 : decode cX8_determinant 227 = .ok (.lmul, 1) := by decide +kernel
theorem dX8_determinant_228 : decode cX8_determinant 228 = .ok (.lreturn, 1) := by decide +kernel
set_option maxRecDepth 20000 in
theorem ggX8_isNew_X8_lessens : GoodIn wsX8_isNew wsX8_lessens := goodIn_r _ [7, 2, 1, 8, 9, 6, 10, 11, 12, 13, 14, 15, 16, 17, 18, 19, 20, 21, 22, 23, 24, 25, 26, 27, 28, 29, 30, 31, 32, 33, 34, 35, 36, 37, 38, 39, 40, 41, 42, 43, 44, 45, 46, 47, 48] (by decide +kernel) (by decide +kernel)
set_option maxRecDepth 20000 in
theorem gX8_isNew_X8_lessens : GoodIn wsX8_isNew (wsV RX8 137 RX8 yX8_lessens wsX8_lessens) := goodIn_app (goodIn_of _ (by decide +kernel)) ggX8_isNew_X8_lessens
theorem dX8_isNew_0 : decode cX8_isNew 0 = .ok (.iconst 0, 1) := by decide +kernel
theorem dX8_isNew_1 : decode cX8_isNew 1 = .ok (.istore_n 2, 1) := by decide +kernel
theorem dX8_isNew_2 : decode cX8_isNew 2 = .ok (.iload_n 2, 1) := by decide +kernel
theorem dX8_isNew_3 : decode cX8_isNew 3 = .ok (.iload_n 1, 1) := by decide +kernel
theorem dX8_isNew_4 : decode cX8_isNew 4 = .ok (.if_icmp .ge 132, 3) := by decide +kernel
theorem dX8_isNew_7 : decode cX8_isNew 7 = .ok (.iconst 0, 1) := by decide +kernel
theorem dX8_isNew_8 : decode cX8_isNew 8 = .ok (.istore_n 3, 1) := by decide +kernel
theorem dX8_isNew_9 : decode cX8_isNew 9 = .ok (.aload_n 0, 1) := by decide +kernel
theorem dX8_isNew_10 : decode cX8_isNew 10 = .ok (.getfield 46, 3) := by decide +kernel
theorem dX8_isNew_13 : decode cX8_isNew 13 = .ok (.bipush 12, 2) := by decide +kernel
theorem dX8_isNew_15 : decode cX8_isNew 15 = .ok (.iload_n 2, 1) := by decide +kernel
theorem dX8_isNew_16 : decode cX8_isNew 16 = .ok (.imul, 1) := by decide +kernel
theorem dX8_isNew_17 : decode cX8_isNew 17 = .ok (.iload_n 3, 1) := by decide +kernel
theorem dX8_isNew_18 : decode cX8_isNew 18 = .ok (.iadd, 1) := by decide +kernel
theorem dX8_isNew_19 : decode cX8_isNew 19 = .ok (.laload, 1) := by decide +kernel
theorem dX8_isNew_20 : decode cX8_isNew 20 = .ok (.lconst 0, 1) := by decide +kernel
theorem dX8_isNew_21 : decode cX8_isNew 21 = .ok (.lcmp, 1) := by decide +kernel
theorem dX8_isNew_22 : decode cX8_isNew 22 = .ok (.ifCond .ne 9, 3) := by decide +kernel
theorem dX8_isNew_25 : decode cX8_isNew 25 = .ok (.iinc 3 1, 3) := by decide +kernel
theorem dX8_isNew_28 : decode cX8_isNew 28 = .ok (.goto (-19), 3) := by decide +kernel
theorem dX8_isNew_31 : decode cX8_isNew 31 = .ok (.aload_n 0, 1) := by decide +kernel
theorem dX8_isNew_32 : decode cX8_isNew 32 = .ok (.getfield 46, 3) := by decide +kernel
theorem dX8_isNew_35 : decode cX8_isNew 35 = .ok (.bipush 12, 2) := by decide +kernel
theorem dX8_isNew_37 : decode cX8_isNew 37 = .ok (.iload_n 2, 1) := by decide +kernel
theorem dX8_isNew_38 : decode cX8_isNew 38 = .ok (.imul, 1) := by decide +kernel
theorem dX8_isNew_39 : decode cX8_isNew 39 = .ok (.iload_n 3, 1) := by decide +kernel
theorem dX8_isNew_40 : decode cX8_isNew 40 = .ok (.iadd, 1) := by decide +kernel
theorem dX8_isNew_41 : decode cX8_isNew 41 = .ok (.laload, 1) := by decide +kernel
theorem dX8_isNew_42 : decode cX8_isNew 42 = .ok (.lstore 4, 2) := by decide +kernel
theorem dX8_isNew_44 : decode cX8_isNew 44 = .ok (.aload_n 0, 1) := by decide +kernel
theorem dX8_isNew_45 : decode cX8_isNew 45 = .ok (.getfield 46, 3) := by decide +kernel
theorem dX8_isNew_48 : decode cX8_isNew 48 = .ok (.bipush 12, 2) := by decide +kernel
theorem dX8_isNew_50 : decode cX8_isNew 50 = .ok (.iload_n 1, 1) := by decide +kernel
theorem dX8_isNew_51 : decode cX8_isNew 51 = .ok (.imul, 1) := by decide +kernel
theorem dX8_isNew_52 : decode cX8_isNew 52 = .ok (.iload_n 3, 1) := by decide +kernel
theorem dX8_isNew_53 : decode cX8_isNew 53 = .ok (.iadd, 1) := by decide +kernel
theorem dX8_isNew_54 : decode cX8_isNew 54 = .ok (.laload, 1) := by decide +kernel
theorem dX8_isNew_55 : decode cX8_isNew 55 = .ok (.lstore 6, 2) := by decide +kernel
theorem dX8_isNew_57 : decode cX8_isNew 57 = .ok (.iconst 0, 1) := by decide +kernel
theorem dX8_isNew_58 : decode cX8_isNew 58 = .ok (.istore 8, 2) := by decide +kernel
theorem dX8_isNew_60 : decode cX8_isNew 60 = .ok (.iload 8, 2) := by decide +kernel
theorem dX8_isNew_62 : decode cX8_isNew 62 = .ok (.aload_n 0, 1) := by decide +kernel
theorem dX8_isNew_63 : decode cX8_isNew 63 = .ok (.getfield 130, 3) := by decide +kernel
theorem dX8_isNew_66 : decode cX8_isNew 66 = .ok (.if_icmp .ge 59, 3) := by decide +kernel
theorem dX8_isNew_69 : decode cX8_isNew 69 = .ok (.lload 6, 2) := by decide +kernel
theorem dX8_isNew_71 : decode cX8_isNew 71 = .ok (.lconst 0, 1) := by decide +kernel
theorem dX8_isNew_72 : decode cX8_isNew 72 = .ok (.lcmp, 1) := by decide +kernel
theorem dX8_isNew_73 : decode cX8_isNew 73 = .ok (.ifCond .eq 52, 3) := by decide +kernel
theorem dX8_isNew_76 : decode cX8_isNew 76 = .ok (.aload_n 0, 1) := by decide +kernel
theorem dX8_isNew_77 : decode cX8_isNew 77 = .ok (.getfield 46, 3) := by decide +kernel
theorem dX8_isNew_80 : decode cX8_isNew 80 = .ok (.bipush 12, 2) := by decide +kernel
theorem dX8_isNew_82 : decode cX8_isNew 82 = .ok (.iload_n 1, 1) := by decide +kernel
theorem dX8_isNew_83 : decode cX8_isNew 83 = .ok (.imul, 1) := by decide +kernel
theorem dX8_isNew_84 : decode cX8_isNew 84 = .ok (.iload 8, 2) := by decide +kernel
theorem dX8_isNew_86 : decode cX8_isNew 86 = .ok (.iadd, 1) := by decide +kernel
theorem dX8_isNew_87 : decode cX8_isNew 87 = .ok (.aload_n 0, 1) := by decide +kernel
theorem dX8_isNew_88 : decode cX8_isNew 88 = .ok (.getfield 46, 3) := by decide +kernel
theorem dX8_isNew_91 : decode cX8_isNew 91 = .ok (.bipush 12, 2) := by decide +kernel
theorem dX8_isNew_93 : decode cX8_isNew 93 = .ok (.iload_n 1, 1) := by decide +kernel
theorem dX8_isNew_94 : decode cX8_isNew 94 = .ok (.imul, 1) := by decide +kernel
theorem dX8_isNew_95 : decode cX8_isNew 95 = .ok (.iload 8, 2) := by decide +kernel
theorem dX8_isNew_97 : decode cX8_isNew 97 = .ok (.iadd, 1) := by decide +kernel
theorem dX8_isNew_98 : decode cX8_isNew 98 = .ok (.laload, 1) := by decide +kernel
theorem dX8_isNew_99 : decode cX8_isNew 99 = .ok (.lload 4, 2) := by decide +kernel
theorem dX8_isNew_101 : decode cX8_isNew 101 = .ok (.lmul, 1) := by decide +kernel
theorem dX8_isNew_102 : decode cX8_isNew 102 = .ok (.lload 6, 2) := by decide +kernel
theorem dX8_isNew_104 : decode cX8_isNew 104 = .ok (.aload_n 0, 1) := by decide +kernel
theorem dX8_isNew_105 : decode cX8_isNew 105 = .ok (.getfield 46, 3) := by decide +kernel
theorem dX8_isNew_108 : decode cX8_isNew 108 = .ok (.bipush 12, 2) := by decide +kernel
theorem dX8_isNew_110 : decode cX8_isNew 110 = .ok (.iload_n 2, 1) := by decide +kernel
theorem dX8_isNew_111 : decode cX8_isNew 111 = .ok (.imul, 1) := by decide +kernel
theorem dX8_isNew_112 : decode cX8_isNew 112 = .ok (.iload 8, 2) := by decide +kernel
theorem dX8_isNew_114 : decode cX8_isNew 114 = .ok (.iadd, 1) := by decide +kernel
theorem dX8_isNew_115 : decode cX8_isNew 115 = .ok (.laload, 1) := by decide +kernel
theorem dX8_isNew_116 : decode cX8_isNew 116 = .ok (.lmul, 1) := by decide +kernel
theorem dX8_isNew_117 : decode cX8_isNew 117 = .ok (.lsub, 1) := by decide +kernel
theorem dX8_isNew_118 : decode cX8_isNew 118 = .ok (.lastore, 1) := by decide +kernel
theorem dX8_isNew_119 : decode cX8_isNew 119 = .ok (.iinc 8 1, 3) := by decide +kernel
theorem dX8_isNew_122 : decode cX8_isNew 122 = .ok (.goto (-62), 3) := by decide +kernel
theorem dX8_isNew_125 : decode cX8_isNew 125 = .ok (.aload_n 0, 1) := by decide +kernel
theorem dX8_isNew_126 : decode cX8_isNew 126 = .ok (.iload_n 1, 1) := by decide +kernel
theorem dX8_isNew_127 : decode cX8_isNew 127 = .ok (.invokevirtual 137, 3) := by decide +kernel
theorem dX8_isNew_130 : decode cX8_isNew 130 = .ok (.iinc 2 1, 3) := by decide +kernel
theorem dX8_isNew_133 : decode cX8_isNew 133 = .ok (.goto (-131), 3) := by decide +kernel
theorem dX8_isNew_136 : decode cX8_isNew 136 = .ok (.iconst 0, 1) := by decide +kernel
theorem dX8_isNew_137 : decode cX8_isNew 137 = .ok (.istore_n 2, 1) := by decide +kernel
theorem dX8_isNew_138 : decode cX8_isNew 138 = .ok (.iload_n 2, 1) := by decide +kernel
theorem dX8_isNew_139 : decode cX8_isNew 139 = .ok (.aload_n 0, 1) := by decide +kernel
theorem dX8_isNew_140 : decode cX8_isNew 140 = .ok (.getfield 130, 3) := by decide +kernel
theorem dX8_isNew_143 : decode cX8_isNew 143 = .ok (.if_icmp .ge 27, 3) := by decide +kernel
theorem dX8_isNew_146 : decode cX8_isNew 146 = .ok (.aload_n 0, 1) := by decide +kernel
theorem dX8_isNew_147 : decode cX8_isNew 147 = .ok (.getfield 46, 3) := by decide +kernel
theorem dX8_isNew_150 : decode cX8_isNew 150 = .ok (.bipush 12, 2) := by decide +kernel
theorem dX8_isNew_152 : decode cX8_isNew 152 = .ok (.iload_n 1, 1) := by decide +kernel
theorem dX8_isNew_153 : decode cX8_isNew 153 = .ok (.imul, 1) := by decide +kernel
theorem dX8_isNew_154 : decode cX8_isNew 154 = .ok (.iload_n 2, 1) := by decide +kernel
theorem dX8_isNew_155 : decode cX8_isNew 155 = .ok (.iadd, 1) := by decide +kernel
theorem dX8_isNew_156 : decode cX8_isNew 156 = .ok (.laload, 1) := by decide +kernel
theorem dX8_isNew_157 : decode cX8_isNew 157 = .ok (.lconst 0, 1) := by decide +kernel
theorem dX8_isNew_158 : decode cX8_isNew 158 = .ok (.lcmp, 1) := by decide +kernel
theorem dX8_isNew_159 : decode cX8_isNew 159 = .ok (.ifCond .eq 5, 3) := by decide +kernel
theorem dX8_isNew_162 : decode cX8_isNew 162 = .ok (.iconst 1, 1) := by decide +kernel
theorem dX8_isNew_163 : decode cX8_isNew 163 = .ok (.ireturn, 1) := by decide +kernel
theorem dX8_isNew_164 : decode cX8_isNew 164 = .ok (.iinc 2 1, 3) := by decide +kernel
theorem dX8_isNew_167 : decode cX8_isNew 167 = .ok (.goto (-29), 3) := by decide +kernel
theorem dX8_isNew_170 : decode cX8_isNew 170 = .ok (.iconst 0, 1) := by decide +kernel
theorem dX8_isNew_171 : decode cX8_isNew 171 = .ok (.ireturn, 1) := by decide +kernel
set_option maxRecDepth 20000 in
theorem ggX8_common_X8_abs : GoodIn wsX8_common wsX8_abs := goodIn_r _ [4] (by decide +kernel) (by decide +kernel)
set_option maxRecDepth 20000 in
theorem gX8_common_X8_abs : GoodIn wsX8_common (va_wsS RX8 141 yX8_abs wsX8_abs) := goodIn_app (goodIn_of _ (by decide +kernel)) ggX8_common_X8_abs
theorem dX8_common_0 : decode cX8_common 0 = .ok (.lload_n 0, 1) := by decide +kernel
theorem dX8_common_1 : decode cX8_common 1 = .ok (.invokestatic 141, 3) := by decide +kernel
theorem dX8_common_4 : decode cX8_common 4 = .ok (.lstore 4, 2) := by decide +kernel
theorem dX8_common_6 : decode cX8_common 6 = .ok (.lload_n 2, 1) := by decide +kernel
theorem dX8_common_7 : decode cX8_common 7 = .ok (.invokestatic 141, 3) := by decide +kernel
theorem dX8_common_10 : decode cX8_common 10 = .ok (.lstore 6, 2) := by decide +kernel
theorem dX8_common_12 : decode cX8_common 12 = .ok (.lload 6, 2) := by decide +kernel
theorem dX8_common_14 : decode cX8_common 14 = .ok (.lconst 0, 1) := by decide +kernel
theorem dX8_common_15 : decode cX8_common 15 = .ok (.lcmp, 1) := by decide +kernel
theorem dX8_common_16 : decode cX8_common 16 = .ok (.ifCond .eq 21, 3) := by decide +kernel
theorem dX8_common_19 : decode cX8_common 19 = .ok (.lload 4, 2) := by decide +kernel
theorem dX8_common_21 : decode cX8_common 21 = .ok (.lload 6, 2) := by decide +kernel
theorem dX8_common_23 : decode cX8_common 23 = .ok (.lrem, 1) := by decide +kernel
theorem dX8_common_24 : decode cX8_common 24 = .ok (.lstore 8, 2) := by decide +kernel
theorem dX8_common_26 : decode cX8_common 26 = .ok (.lload 6, 2) := by decide +kernel
theorem dX8_common_28 : decode cX8_common 28 = .ok (.lstore 4, 2) := by decide +kernel
theorem dX8_common_30 : decode cX8_common 30 = .ok (.lload 8, 2) := by decide +kernel
theorem dX8_common_32 : decode cX8_common 32 = .ok (.lstore 6, 2) := by decide +kernel
theorem dX8_common_34 : decode cX8_common 34 = .ok (.goto (-22), 3) := by decide +kernel
theorem dX8_common_37 : decode cX8_common 37 = .ok (.lload 4, 2) := by decide +kernel
theorem dX8_common_39 : decode cX8_common 39 = .ok (.lreturn, 1) := by decide +kernel
set_option maxRecDepth 20000 in
theorem ggX8_lessens_X8_common : GoodIn wsX8_lessens wsX8_common := goodIn_r _ [6, 7, 8, 5, 9] (by decide +kernel) (by decide +kernel)
set_option maxRecDepth 20000 in
theorem gX8_lessens_X8_common : GoodIn wsX8_lessens (va_wsS RX8 145 yX8_common wsX8_common) := goodIn_app (goodIn_of _ (by decide +kernel)) ggX8_lessens_X8_common
theorem dX8_lessens_0 : decode cX8_lessens 0 = .ok (.lconst 0, 1) := by decide +kernel
theorem dX8_lessens_1 : decode cX8_lessens 1 = .ok (.lstore_n 2, 1) := by decide +kernel
theorem dX8_lessens_2 : decode cX8_lessens 2 = .ok (.iconst 0, 1) := by decide +kernel
theorem dX8_lessens_3 : decode cX8_lessens 3 = .ok (.istore 4, 2) := by decide +kernel
theorem dX8_lessens_5 : decode cX8_lessens 5 = .ok (.iload 4, 2) := by decide +kernel
theorem dX8_lessens_7 : decode cX8_lessens 7 = .ok (.aload_n 0, 1) := by decide +kernel
theorem dX8_lessens_8 : decode cX8_lessens 8 = .ok (.getfield 130, 3) := by decide +kernel
theorem dX8_lessens_11 : decode cX8_lessens 11 = .ok (.if_icmp .ge 26, 3) := by decide +kernel
theorem dX8_lessens_14 : decode cX8_lessens 14 = .ok (.lload_n 2, 1) := by decide +kernel
theorem dX8_lessens_15 : decode cX8_lessens 15 = .ok (.aload_n 0, 1) := by decide +kernel
theorem dX8_lessens_16 : decode cX8_lessens 16 = .ok (.getfield 46, 3) := by decide +kernel
theorem dX8_lessens_19 : decode cX8_lessens 19 = .ok (.bipush 12, 2) := by decide +kernel
theorem dX8_lessens_21 : decode cX8_lessens 21 = .ok (.iload_n 1, 1) := by decide +kernel
theorem dX8_lessens_22 : decode cX8_lessens 22 = .ok (.imul, 1) := by decide +kernel
theorem dX8_lessens_23 : decode cX8_lessens 23 = .ok (.iload 4, 2) := by decide +kernel
theorem dX8_lessens_25 : decode cX8_lessens 25 = .ok (.iadd, 1) := by decide +kernel
theorem dX8_lessens_26 : decode cX8_lessens 26 = .ok (.laload, 1) := by decide +kernel
theorem dX8_lessens_27 : decode cX8_lessens 27 = .ok (.invokestatic 145, 3) := by decide +kernel
theorem dX8_lessens_30 : decode cX8_lessens 30 = .ok (.lstore_n 2, 1) := by decide +kernel
theorem dX8_lessens_31 : decode cX8_lessens 31 = .ok (.iinc 4 1, 3) := by decide +kernel
theorem dX8_lessens_34 : decode cX8_lessens 34 = .ok (.goto (-29), 3) := by decide +kernel
theorem dX8_lessens_37 : decode cX8_lessens 37 = .ok (.iconst 0, 1) := by decide +kernel
theorem dX8_lessens_38 : decode cX8_lessens 38 = .ok (.istore 4, 2) := by decide +kernel
theorem dX8_lessens_40 : decode cX8_lessens 40 = .ok (.iload 4, 2) := by decide +kernel
theorem dX8_lessens_42 : decode cX8_lessens 42 = .ok (.aload_n 0, 1) := by decide +kernel
theorem dX8_lessens_43 : decode cX8_lessens 43 = .ok (.getfield 130, 3) := by decide +kernel
theorem dX8_lessens_46 : decode cX8_lessens 46 = .ok (.if_icmp .ge 31, 3) := by decide +kernel
theorem dX8_lessens_49 : decode cX8_lessens 49 = .ok (.lload_n 2, 1) := by decide +kernel
theorem dX8_lessens_50 : decode cX8_lessens 50 = .ok (.lconst 1, 1) := by decide +kernel
theorem dX8_lessens_51 : decode cX8_lessens 51 = .ok (.lcmp, 1) := by decide +kernel
theorem dX8_lessens_52 : decode cX8_lessens 52 = .ok (.ifCond .le 25, 3) := by decide +kernel
theorem dX8_lessens_55 : decode cX8_lessens 55 = .ok (.aload_n 0, 1) := by decide +kernel
theorem dX8_lessens_56 : decode cX8_lessens 56 = .ok (.getfield 46, 3) := by decide +kernel
theorem dX8_lessens_59 : decode cX8_lessens 59 = .ok (.bipush 12, 2) := by decide +kernel
theorem dX8_lessens_61 : decode cX8_lessens 61 = .ok (.iload_n 1, 1) := by decide +kernel
theorem dX8_lessens_62 : decode cX8_lessens 62 = .ok (.imul, 1) := by decide +kernel
theorem dX8_lessens_63 : decode cX8_lessens 63 = .ok (.iload 4, 2) := by decide +kernel
theorem dX8_lessens_65 : decode cX8_lessens 65 = .ok (.iadd, 1) := by decide +kernel
theorem dX8_lessens_66 : decode cX8_lessens 66 = .ok (.dup2, 1) := by decide +kernel
theorem dX8_lessens_67 : decode cX8_lessens 67 = .ok (.laload, 1) := by decide +kernel
theorem dX8_lessens_68 : decode cX8_lessens 68 = .ok (.lload_n 2, 1) := by decide +kernel
theorem dX8_lessens_69 : decode cX8_lessens 69 = .ok (.ldiv, 1) := by decide +kernel
theorem dX8_lessens_70 : decode cX8_lessens 70 = .ok (.lastore, 1) := by decide +kernel
theorem dX8_lessens_71 : decode cX8_lessens 71 = .ok (.iinc 4 1, 3) := by decide +kernel
theorem dX8_lessens_74 : decode cX8_lessens 74 = .ok (.goto (-34), 3) := by decide +kernel
theorem dX8_lessens_77 : decode cX8_lessens 77 = .ok (.return_, 1) := by decide +kernel
set_option maxRecDepth 20000 in
theorem ggX8_laysBase_X8_laysFree : GoodIn wsX8_laysBase wsX8_laysFree := goodIn_r _ [12, 4, 13, 14, 6, 7, 15, 16, 11, 17, 40, 41, 42, 43, 44, 45, 46, 47, 48, 49, 50, 51, 52, 53, 54, 55, 56, 57, 58, 59, 60, 61, 62, 63, 64, 65, 66, 67, 68, 69, 70, 71, 72, 73, 74] (by decide +kernel) (by decide +kernel)
set_option maxRecDepth 20000 in
theorem gX8_laysBase_X8_laysFree : GoodIn wsX8_laysBase (wsV RX8 149 RX8 yX8_laysFree wsX8_laysFree) := goodIn_app (goodIn_of _ (by decide +kernel)) ggX8_laysBase_X8_laysFree
set_option maxRecDepth 20000 in
theorem ggX8_laysBase_X8_isOn : GoodIn wsX8_laysBase wsX8_isOn := goodIn_r _ [17] (by decide +kernel) (by decide +kernel)
set_option maxRecDepth 20000 in
theorem gX8_laysBase_X8_isOn : GoodIn wsX8_laysBase (va_wsS RX8 113 yX8_isOn wsX8_isOn) := goodIn_app (goodIn_of _ (by decide +kernel)) ggX8_laysBase_X8_isOn
set_option maxRecDepth 20000 in
theorem ggX8_laysBase_X8_brings : GoodIn wsX8_laysBase wsX8_brings := goodIn_r _ [21, 22, 23, 24, 25, 40, 41, 42, 43, 44, 45, 46, 47, 48, 49, 50, 51, 52, 53, 54, 55, 56, 57, 58, 59, 60, 61, 62, 63, 64, 65, 66, 67, 68, 69, 70, 71, 72, 73, 74] (by decide +kernel) (by decide +kernel)
set_option maxRecDepth 20000 in
theorem gX8_laysBase_X8_brings : GoodIn wsX8_laysBase (wsV RX8 158 RX8 yX8_brings wsX8_brings) := goodIn_app (goodIn_of _ (by decide +kernel)) ggX8_laysBase_X8_brings
set_option maxRecDepth 20000 in
theorem ggX8_laysBase_X8_isNew : GoodIn wsX8_laysBase wsX8_isNew := goodIn_r _ [29, 5, 4, 30, 31, 32, 11, 33, 34, 35, 36, 37, 38, 39, 40, 41, 42, 43, 44, 45, 46, 47, 48, 49, 50, 51, 52, 53, 54, 55, 56, 57, 58, 59, 60, 61, 62, 63, 64, 65, 66, 67, 68, 69, 70, 71, 72, 73, 74] (by decide +kernel) (by decide +kernel)
set_option maxRecDepth 20000 in
theorem gX8_laysBase_X8_isNew : GoodIn wsX8_laysBase (wsV RX8 162 RX8 yX8_isNew wsX8_isNew) := goodIn_app (goodIn_of _ (by decide +kernel)) ggX8_laysBase_X8_isNew
theorem dX8_laysBase_0 : decode cX8_laysBase 0 = .ok (.aload_n 0, 1) := by decide +kernel
theorem dX8_laysBase_1 : decode cX8_laysBase 1 = .ok (.invokevirtual 149, 3) := by decide +kernel
theorem dX8_laysBase_4 : decode cX8_laysBase 4 = .ok (.aload_n 0, 1) := by decide +kernel
theorem dX8_laysBase_5 : decode cX8_laysBase 5 = .ok (.iconst 0, 1) := by decide +kernel
theorem dX8_laysBase_6 : decode cX8_laysBase 6 = .ok (.putfield 152, 3) := by decide +kernel
theorem dX8_laysBase_9 : decode cX8_laysBase 9 = .ok (.aload_n 0, 1) := by decide +kernel
theorem dX8_laysBase_10 : decode cX8_laysBase 10 = .ok (.iconst 0, 1) := by decide +kernel
theorem dX8_laysBase_11 : decode cX8_laysBase 11 = .ok (.putfield 155, 3) := by decide +kernel
theorem dX8_laysBase_14 : decode cX8_laysBase 14 = .ok (.iconst 0, 1) := by decide +kernel
theorem dX8_laysBase_15 : decode cX8_laysBase 15 = .ok (.istore_n 2, 1) := by decide +kernel
theorem dX8_laysBase_16 : decode cX8_laysBase 16 = .ok (.iconst 0, 1) := by decide +kernel
theorem dX8_laysBase_17 : decode cX8_laysBase 17 = .ok (.istore_n 3, 1) := by decide +kernel
theorem dX8_laysBase_18 : decode cX8_laysBase 18 = .ok (.iload_n 3, 1) := by decide +kernel
theorem dX8_laysBase_19 : decode cX8_laysBase 19 = .ok (.aload_n 0, 1) := by decide +kernel
theorem dX8_laysBase_20 : decode cX8_laysBase 20 = .ok (.getfield 88, 3) := by decide +kernel
theorem dX8_laysBase_23 : decode cX8_laysBase 23 = .ok (.if_icmp .ge 148, 3) := by decide +kernel
theorem dX8_laysBase_26 : decode cX8_laysBase 26 = .ok (.iload_n 1, 1) := by decide +kernel
theorem dX8_laysBase_27 : decode cX8_laysBase 27 = .ok (.iload_n 3, 1) := by decide +kernel
theorem dX8_laysBase_28 : decode cX8_laysBase 28 = .ok (.invokestatic 113, 3) := by decide +kernel
theorem dX8_laysBase_31 : decode cX8_laysBase 31 = .ok (.ifCond .ne 6, 3) := by decide +kernel
theorem dX8_laysBase_34 : decode cX8_laysBase 34 = .ok (.goto 131, 3) := by decide +kernel
theorem dX8_laysBase_37 : decode cX8_laysBase 37 = .ok (.iconst 0, 1) := by decide +kernel
theorem dX8_laysBase_38 : decode cX8_laysBase 38 = .ok (.istore 4, 2) := by decide +kernel
theorem dX8_laysBase_40 : decode cX8_laysBase 40 = .ok (.iload 4, 2) := by decide +kernel
theorem dX8_laysBase_42 : decode cX8_laysBase 42 = .ok (.aload_n 0, 1) := by decide +kernel
theorem dX8_laysBase_43 : decode cX8_laysBase 43 = .ok (.getfield 130, 3) := by decide +kernel
theorem dX8_laysBase_46 : decode cX8_laysBase 46 = .ok (.if_icmp .ge 41, 3) := by decide +kernel
theorem dX8_laysBase_49 : decode cX8_laysBase 49 = .ok (.aload_n 0, 1) := by decide +kernel
theorem dX8_laysBase_50 : decode cX8_laysBase 50 = .ok (.getfield 46, 3) := by decide +kernel
theorem dX8_laysBase_53 : decode cX8_laysBase 53 = .ok (.bipush 12, 2) := by decide +kernel
theorem dX8_laysBase_55 : decode cX8_laysBase 55 = .ok (.iload_n 2, 1) := by decide +kernel
theorem dX8_laysBase_56 : decode cX8_laysBase 56 = .ok (.imul, 1) := by decide +kernel
theorem dX8_laysBase_57 : decode cX8_laysBase 57 = .ok (.iload 4, 2) := by decide +kernel
theorem dX8_laysBase_59 : decode cX8_laysBase 59 = .ok (.iadd, 1) := by decide +kernel
theorem dX8_laysBase_60 : decode cX8_laysBase 60 = .ok (.aload_n 0, 1) := by decide +kernel
theorem dX8_laysBase_61 : decode cX8_laysBase 61 = .ok (.iload_n 3, 1) := by decide +kernel
theorem dX8_laysBase_62 : decode cX8_laysBase 62 = .ok (.aload_n 0, 1) := by decide +kernel
theorem dX8_laysBase_63 : decode cX8_laysBase 63 = .ok (.getfield 40, 3) := by decide +kernel
theorem dX8_laysBase_66 : decode cX8_laysBase 66 = .ok (.iload 4, 2) := by decide +kernel
theorem dX8_laysBase_68 : decode cX8_laysBase 68 = .ok (.iaload, 1) := by decide +kernel
theorem dX8_laysBase_69 : decode cX8_laysBase 69 = .ok (.aload_n 0, 1) := by decide +kernel
theorem dX8_laysBase_70 : decode cX8_laysBase 70 = .ok (.getfield 43, 3) := by decide +kernel
theorem dX8_laysBase_73 : decode cX8_laysBase 73 = .ok (.iload 4, 2) := by decide +kernel
theorem dX8_laysBase_75 : decode cX8_laysBase 75 = .ok (.iaload, 1) := by decide +kernel
theorem dX8_laysBase_76 : decode cX8_laysBase 76 = .ok (.invokevirtual 158, 3) := by decide +kernel
theorem dX8_laysBase_79 : decode cX8_laysBase 79 = .ok (.i2l, 1) := by decide +kernel
theorem dX8_laysBase_80 : decode cX8_laysBase 80 = .ok (.lastore, 1) := by decide +kernel
theorem dX8_laysBase_81 : decode cX8_laysBase 81 = .ok (.iinc 4 1, 3) := by decide +kernel
theorem dX8_laysBase_84 : decode cX8_laysBase 84 = .ok (.goto (-44), 3) := by decide +kernel
theorem dX8_laysBase_87 : decode cX8_laysBase 87 = .ok (.iload_n 2, 1) := by decide +kernel
theorem dX8_laysBase_88 : decode cX8_laysBase 88 = .ok (.aload_n 0, 1) := by decide +kernel
theorem dX8_laysBase_89 : decode cX8_laysBase 89 = .ok (.getfield 130, 3) := by decide +kernel
theorem dX8_laysBase_92 : decode cX8_laysBase 92 = .ok (.if_icmp .ge 15, 3) := by decide +kernel
theorem dX8_laysBase_95 : decode cX8_laysBase 95 = .ok (.aload_n 0, 1) := by decide +kernel
theorem dX8_laysBase_96 : decode cX8_laysBase 96 = .ok (.iload_n 2, 1) := by decide +kernel
theorem dX8_laysBase_97 : decode cX8_laysBase 97 = .ok (.invokevirtual 162, 3) := by decide +kernel
theorem dX8_laysBase_100 : decode cX8_laysBase 100 = .ok (.ifCond .eq 7, 3) := by decide +kernel
theorem dX8_laysBase_103 : decode cX8_laysBase 103 = .ok (.iconst 1, 1) := by decide +kernel
theorem dX8_laysBase_104 : decode cX8_laysBase 104 = .ok (.goto 4, 3) := by decide +kernel
theorem dX8_laysBase_107 : decode cX8_laysBase 107 = .ok (.iconst 0, 1) := by decide +kernel
theorem dX8_laysBase_108 : decode cX8_laysBase 108 = .ok (.istore 4, 2) := by decide +kernel
theorem dX8_laysBase_110 : decode cX8_laysBase 110 = .ok (.aload_n 0, 1) := by decide +kernel
theorem dX8_laysBase_111 : decode cX8_laysBase 111 = .ok (.dup, 1) := by decide +kernel
theorem dX8_laysBase_112 : decode cX8_laysBase 112 = .ok (.getfield 152, 3) := by decide +kernel
theorem dX8_laysBase_115 : decode cX8_laysBase 115 = .ok (.iload 4, 2) := by decide +kernel
theorem dX8_laysBase_117 : decode cX8_laysBase 117 = .ok (.ifCond .eq 9, 3) := by decide +kernel
theorem dX8_laysBase_120 : decode cX8_laysBase 120 = .ok (.iconst 1, 1) := by decide +kernel
theorem dX8_laysBase_121 : decode cX8_laysBase 121 = .ok (.iload_n 3, 1) := by decide +kernel
theorem dX8_laysBase_122 : decode cX8_laysBase 122 = .ok (.ishl, 1) := by decide +kernel
theorem dX8_laysBase_123 : decode cX8_laysBase 123 = .ok (.goto 4, 3) := by decide +kernel
theorem dX8_laysBase_126 : decode cX8_laysBase 126 = .ok (.iconst 0, 1) := by decide +kernel
theorem dX8_laysBase_127 : decode cX8_laysBase 127 = .ok (.ior, 1) := by decide +kernel
theorem dX8_laysBase_128 : decode cX8_laysBase 128 = .ok (.putfield 152, 3) := by decide +kernel
theorem dX8_laysBase_131 : decode cX8_laysBase 131 = .ok (.aload_n 0, 1) := by decide +kernel
theorem dX8_laysBase_132 : decode cX8_laysBase 132 = .ok (.dup, 1) := by decide +kernel
theorem dX8_laysBase_133 : decode cX8_laysBase 133 = .ok (.getfield 155, 3) := by decide +kernel
theorem dX8_laysBase_136 : decode cX8_laysBase 136 = .ok (.iload 4, 2) := by decide +kernel
theorem dX8_laysBase_138 : decode cX8_laysBase 138 = .ok (.ifCond .eq 7, 3) := by decide +kernel
theorem dX8_laysBase_141 : decode cX8_laysBase 141 = .ok (.iconst 0, 1) := by decide +kernel
theorem dX8_laysBase_142 : decode cX8_laysBase 142 = .ok (.goto 6, 3) := by decide +kernel
theorem dX8_laysBase_145 : decode cX8_laysBase 145 = .ok (.iconst 1, 1) := by decide +kernel
theorem dX8_laysBase_146 : decode cX8_laysBase 146 = .ok (.iload_n 3, 1) := by decide +kernel
theorem dX8_laysBase_147 : decode cX8_laysBase 147 = .ok (.ishl, 1) := by decide +kernel
theorem dX8_laysBase_148 : decode cX8_laysBase 148 = .ok (.ior, 1) := by decide +kernel
theorem dX8_laysBase_149 : decode cX8_laysBase 149 = .ok (.putfield 155, 3) := by decide +kernel
theorem dX8_laysBase_152 : decode cX8_laysBase 152 = .ok (.iload_n 2, 1) := by decide +kernel
theorem dX8_laysBase_153 : decode cX8_laysBase 153 = .ok (.iload 4, 2) := by decide +kernel
theorem dX8_laysBase_155 : decode cX8_laysBase 155 = .ok (.ifCond .eq 7, 3) := by decide +kernel
theorem dX8_laysBase_158 : decode cX8_laysBase 158 = .ok (.iconst 1, 1) := by decide +kernel
theorem dX8_laysBase_159 : decode cX8_laysBase 159 = .ok (.goto 4, 3) := by decide +kernel
theorem dX8_laysBase_162 : decode cX8_laysBase 162 = .ok (.iconst 0, 1) := by decide +kernel
theorem dX8_laysBase_163 : decode cX8_laysBase 163 = .ok (.iadd, 1) := by decide +kernel
theorem dX8_laysBase_164 : decode cX8_laysBase 164 = .ok (.istore_n 2, 1) := by decide +kernel
theorem dX8_laysBase_165 : decode cX8_laysBase 165 = .ok (.iinc 3 1, 3) := by decide +kernel
theorem dX8_laysBase_168 : decode cX8_laysBase 168 = .ok (.goto (-150), 3) := by decide +kernel
theorem dX8_laysBase_171 : decode cX8_laysBase 171 = .ok (.return_, 1) := by decide +kernel
set_option maxRecDepth 20000 in
theorem ggX8_kind_X8_bits : GoodIn wsX8_kind wsX8_bits := goodIn_r _ [7] (by decide +kernel) (by decide +kernel)
set_option maxRecDepth 20000 in
theorem gX8_kind_X8_bits : GoodIn wsX8_kind (va_wsS RX8 165 yX8_bits wsX8_bits) := goodIn_app (goodIn_of _ (by decide +kernel)) ggX8_kind_X8_bits
theorem dX8_kind_0 : decode cX8_kind 0 = .ok (.aload_n 0, 1) := by decide +kernel
theorem dX8_kind_1 : decode cX8_kind 1 = .ok (.getfield 152, 3) := by decide +kernel
theorem dX8_kind_4 : decode cX8_kind 4 = .ok (.invokestatic 165, 3) := by decide +kernel
theorem dX8_kind_7 : decode cX8_kind 7 = .ok (.aload_n 0, 1) := by decide +kernel
theorem dX8_kind_8 : decode cX8_kind 8 = .ok (.getfield 130, 3) := by decide +kernel
theorem dX8_kind_11 : decode cX8_kind 11 = .ok (.if_icmp .ge 5, 3) := by decide +kernel
theorem dX8_kind_14 : decode cX8_kind 14 = .ok (.iconst 0, 1) := by decide +kernel
theorem dX8_kind_15 : decode cX8_kind 15 = .ok (.ireturn, 1) := by decide +kernel
theorem dX8_kind_16 : decode cX8_kind 16 = .ok (.aload_n 0, 1) := by decide +kernel
theorem dX8_kind_17 : decode cX8_kind 17 = .ok (.getfield 155, 3) := by decide +kernel
theorem dX8_kind_20 : decode cX8_kind 20 = .ok (.invokestatic 165, 3) := by decide +kernel
theorem dX8_kind_23 : decode cX8_kind 23 = .ok (.iconst 2, 1) := by decide +kernel
theorem dX8_kind_24 : decode cX8_kind 24 = .ok (.if_icmp .le 7, 3) := by decide +kernel
theorem dX8_kind_27 : decode cX8_kind 27 = .ok (.iconst 4, 1) := by decide +kernel
theorem dX8_kind_28 : decode cX8_kind 28 = .ok (.goto 12, 3) := by decide +kernel
theorem dX8_kind_31 : decode cX8_kind 31 = .ok (.iconst 1, 1) := by decide +kernel
theorem dX8_kind_32 : decode cX8_kind 32 = .ok (.aload_n 0, 1) := by decide +kernel
theorem dX8_kind_33 : decode cX8_kind 33 = .ok (.getfield 155, 3) := by decide +kernel
theorem dX8_kind_36 : decode cX8_kind 36 = .ok (.invokestatic 165, 3) := by decide +kernel
theorem dX8_kind_39 : decode cX8_kind 39 = .ok (.iadd, 1) := by decide +kernel
theorem dX8_kind_40 : decode cX8_kind 40 = .ok (.ireturn, 1) := by decide +kernel
set_option maxRecDepth 20000 in
theorem ggX8_kindOf_X8_laysBase : GoodIn wsX8_kindOf wsX8_laysBase := goodIn_r _ [5, 6, 7, 8, 9, 10, 11, 12, 13, 14, 15, 4, 16, 17, 18, 19, 20, 21, 22, 23, 24, 25, 26, 27, 28, 29, 30, 31, 32, 33, 34, 35, 36, 37, 38, 39, 40, 41, 42, 43, 51, 52, 53, 54, 55, 56, 57, 58, 59, 60, 61, 62, 63, 64, 65, 66, 67, 68, 69, 70, 71, 72, 73, 74, 75, 76, 77, 78, 79, 80, 81, 82, 83, 84, 85] (by decide +kernel) (by decide +kernel)
set_option maxRecDepth 20000 in
theorem gX8_kindOf_X8_laysBase : GoodIn wsX8_kindOf (wsV RX8 169 RX8 yX8_laysBase wsX8_laysBase) := goodIn_app (goodIn_of _ (by decide +kernel)) ggX8_kindOf_X8_laysBase
set_option maxRecDepth 20000 in
theorem ggX8_kindOf_X8_kind : GoodIn wsX8_kindOf wsX8_kind := goodIn_r _ [47, 6, 9, 7, 48, 49, 4, 50, 51, 52, 53, 54, 55, 56, 57, 58, 59, 60, 61, 62, 63, 64, 65, 66, 67, 68, 69, 70, 71, 72, 73, 74, 75, 76, 77, 78, 79, 80, 81, 82, 83, 84, 85] (by decide +kernel) (by decide +kernel)
set_option maxRecDepth 20000 in
theorem gX8_kindOf_X8_kind : GoodIn wsX8_kindOf (wsV RX8 172 RX8 yX8_kind wsX8_kind) := goodIn_app (goodIn_of _ (by decide +kernel)) ggX8_kindOf_X8_kind
theorem dX8_kindOf_0 : decode cX8_kindOf 0 = .ok (.aload_n 0, 1) := by decide +kernel
theorem dX8_kindOf_1 : decode cX8_kindOf 1 = .ok (.iload_n 1, 1) := by decide +kernel
theorem dX8_kindOf_2 : decode cX8_kindOf 2 = .ok (.invokevirtual 169, 3) := by decide +kernel
theorem dX8_kindOf_5 : decode cX8_kindOf 5 = .ok (.aload_n 0, 1) := by decide +kernel
theorem dX8_kindOf_6 : decode cX8_kindOf 6 = .ok (.invokevirtual 172, 3) := by decide +kernel
theorem dX8_kindOf_9 : decode cX8_kindOf 9 = .ok (.ireturn, 1) := by decide +kernel
theorem dX8_isFirm_0 : decode cX8_isFirm 0 = .ok (.iload_n 0, 1) := by decide +kernel
theorem dX8_isFirm_1 : decode cX8_isFirm 1 = .ok (.ifCond .le 12, 3) := by decide +kernel
theorem dX8_isFirm_4 : decode cX8_isFirm 4 = .ok (.iload_n 0, 1) := by decide +kernel
theorem dX8_isFirm_5 : decode cX8_isFirm 5 = .ok (.iconst 4, 1) := by decide +kernel
theorem dX8_isFirm_6 : decode cX8_isFirm 6 = .ok (.if_icmp .ge 7, 3) := by decide +kernel
theorem dX8_isFirm_9 : decode cX8_isFirm 9 = .ok (.iconst 1, 1) := by decide +kernel
theorem dX8_isFirm_10 : decode cX8_isFirm 10 = .ok (.goto 4, 3) := by decide +kernel
theorem dX8_isFirm_13 : decode cX8_isFirm 13 = .ok (.iconst 0, 1) := by decide +kernel
theorem dX8_isFirm_14 : decode cX8_isFirm 14 = .ok (.ireturn, 1) := by decide +kernel
set_option maxRecDepth 20000 in
theorem ggX8_setDeterminant_X8_isOn : GoodIn wsX8_setDeterminant wsX8_isOn := goodIn_r _ [10] (by decide +kernel) (by decide +kernel)
set_option maxRecDepth 20000 in
theorem gX8_setDeterminant_X8_isOn : GoodIn wsX8_setDeterminant (va_wsS RX8 113 yX8_isOn wsX8_isOn) := goodIn_app (goodIn_of _ (by decide +kernel)) ggX8_setDeterminant_X8_isOn
set_option maxRecDepth 20000 in
theorem ggX8_setDeterminant_X8_brings : GoodIn wsX8_setDeterminant wsX8_brings := goodIn_r _ [14, 15, 16, 17, 18, 27, 28, 29, 30, 31, 32, 33, 34, 35, 36, 37, 38, 39, 40, 41, 42, 43, 44, 45, 46, 47, 48, 49, 50, 51, 52, 53, 54, 55, 56, 57, 58, 59, 60, 61] (by decide +kernel) (by decide +kernel)
set_option maxRecDepth 20000 in
theorem gX8_setDeterminant_X8_brings : GoodIn wsX8_setDeterminant (wsV RX8 158 RX8 yX8_brings wsX8_brings) := goodIn_app (goodIn_of _ (by decide +kernel)) ggX8_setDeterminant_X8_brings
set_option maxRecDepth 20000 in
theorem ggX8_setDeterminant_X8_determinant : GoodIn wsX8_setDeterminant wsX8_determinant := goodIn_r _ [22, 3, 23, 24, 25, 9, 26, 27, 28, 29, 30, 31, 32, 33, 34, 35, 36, 37, 38, 39, 40, 41, 42, 43, 44, 45, 46, 47, 48, 49, 50, 51, 52, 53, 54, 55, 56, 57, 58, 59, 60, 61] (by decide +kernel) (by decide +kernel)
set_option maxRecDepth 20000 in
theorem gX8_setDeterminant_X8_determinant : GoodIn wsX8_setDeterminant (wsV RX8 176 RX8 yX8_determinant wsX8_determinant) := goodIn_app (goodIn_of _ (by decide +kernel)) ggX8_setDeterminant_X8_determinant
theorem dX8_setDeterminant_0 : decode cX8_setDeterminant 0 = .ok (.iconst 0, 1) := by decide +kernel
theorem dX8_setDeterminant_1 : decode cX8_setDeterminant 1 = .ok (.istore_n 3, 1) := by decide +kernel
theorem dX8_setDeterminant_2 : decode cX8_setDeterminant 2 = .ok (.iconst 0, 1) := by decide +kernel
theorem dX8_setDeterminant_3 : decode cX8_setDeterminant 3 = .ok (.istore 4, 2) := by decide +kernel
theorem dX8_setDeterminant_5 : decode cX8_setDeterminant 5 = .ok (.iload 4, 2) := by decide +kernel
theorem dX8_setDeterminant_7 : decode cX8_setDeterminant 7 = .ok (.aload_n 0, 1) := by decide +kernel
theorem dX8_setDeterminant_8 : decode cX8_setDeterminant 8 = .ok (.getfield 88, 3) := by decide +kernel
theorem dX8_setDeterminant_11 : decode cX8_setDeterminant 11 = .ok (.if_icmp .ge 92, 3) := by decide +kernel
theorem dX8_setDeterminant_14 : decode cX8_setDeterminant 14 = .ok (.iload_n 1, 1) := by decide +kernel
theorem dX8_setDeterminant_15 : decode cX8_setDeterminant 15 = .ok (.iload 4, 2) := by decide +kernel
theorem dX8_setDeterminant_17 : decode cX8_setDeterminant 17 = .ok (.invokestatic 113, 3) := by decide +kernel
theorem dX8_setDeterminant_20 : decode cX8_setDeterminant 20 = .ok (.ifCond .ne 6, 3) := by decide +kernel
theorem dX8_setDeterminant_23 : decode cX8_setDeterminant 23 = .ok (.goto 74, 3) := by decide +kernel
theorem dX8_setDeterminant_26 : decode cX8_setDeterminant 26 = .ok (.iconst 0, 1) := by decide +kernel
theorem dX8_setDeterminant_27 : decode cX8_setDeterminant 27 = .ok (.istore 5, 2) := by decide +kernel
theorem dX8_setDeterminant_29 : decode cX8_setDeterminant 29 = .ok (.iload 5, 2) := by decide +kernel
theorem dX8_setDeterminant_31 : decode cX8_setDeterminant 31 = .ok (.aload_n 0, 1) := by decide +kernel
theorem dX8_setDeterminant_32 : decode cX8_setDeterminant 32 = .ok (.getfield 130, 3) := by decide +kernel
theorem dX8_setDeterminant_35 : decode cX8_setDeterminant 35 = .ok (.if_icmp .ge 59, 3) := by decide +kernel
theorem dX8_setDeterminant_38 : decode cX8_setDeterminant 38 = .ok (.aload_n 0, 1) := by decide +kernel
theorem dX8_setDeterminant_39 : decode cX8_setDeterminant 39 = .ok (.getfield 46, 3) := by decide +kernel
theorem dX8_setDeterminant_42 : decode cX8_setDeterminant 42 = .ok (.bipush 12, 2) := by decide +kernel
theorem dX8_setDeterminant_44 : decode cX8_setDeterminant 44 = .ok (.iload 5, 2) := by decide +kernel
theorem dX8_setDeterminant_46 : decode cX8_setDeterminant 46 = .ok (.imul, 1) := by decide +kernel
theorem dX8_setDeterminant_47 : decode cX8_setDeterminant 47 = .ok (.iload_n 3, 1) := by decide +kernel
theorem dX8_setDeterminant_48 : decode cX8_setDeterminant 48 = .ok (.iadd, 1) := by decide +kernel
theorem dX8_setDeterminant_49 : decode cX8_setDeterminant 49 = .ok (.iload 4, 2) := by decide +kernel
theorem dX8_setDeterminant_51 : decode cX8_setDeterminant 51 = .ok (.iload_n 2, 1) := by decide +kernel
theorem dX8_setDeterminant_52 : decode cX8_setDeterminant 52 = .ok (.if_icmp .ne 14, 3) := by decide +kernel
theorem dX8_setDeterminant_55 : decode cX8_setDeterminant 55 = .ok (.aload_n 0, 1) := by decide +kernel
theorem dX8_setDeterminant_56 : decode cX8_setDeterminant 56 = .ok (.getfield 50, 3) := by decide +kernel
theorem dX8_setDeterminant_59 : decode cX8_setDeterminant 59 = .ok (.iload 5, 2) := by decide +kernel
theorem dX8_setDeterminant_61 : decode cX8_setDeterminant 61 = .ok (.iaload, 1) := by decide +kernel
theorem dX8_setDeterminant_62 : decode cX8_setDeterminant 62 = .ok (.i2l, 1) := by decide +kernel
theorem dX8_setDeterminant_63 : decode cX8_setDeterminant 63 = .ok (.goto 24, 3) := by decide +kernel
theorem dX8_setDeterminant_66 : decode cX8_setDeterminant 66 = .ok (.aload_n 0, 1) := by decide +kernel
theorem dX8_setDeterminant_67 : decode cX8_setDeterminant 67 = .ok (.iload 4, 2) := by decide +kernel
theorem dX8_setDeterminant_69 : decode cX8_setDeterminant 69 = .ok (.aload_n 0, 1) := by decide +kernel
theorem dX8_setDeterminant_70 : decode cX8_setDeterminant 70 = .ok (.getfield 40, 3) := by decide +kernel
theorem dX8_setDeterminant_73 : decode cX8_setDeterminant 73 = .ok (.iload 5, 2) := by decide +kernel
theorem dX8_setDeterminant_75 : decode cX8_setDeterminant 75 = .ok (.iaload, 1) := by decide +kernel
theorem dX8_setDeterminant_76 : decode cX8_setDeterminant 76 = .ok (.aload_n 0, 1) := by decide +kernel
theorem dX8_setDeterminant_77 : decode cX8_setDeterminant 77 = .ok (.getfield 43, 3) := by decide +kernel
theorem dX8_setDeterminant_80 : decode cX8_setDeterminant 80 = .ok (.iload 5, 2) := by decide +kernel
theorem dX8_setDeterminant_82 : decode cX8_setDeterminant 82 = .ok (.iaload, 1) := by decide +kernel
theorem dX8_setDeterminant_83 : decode cX8_setDeterminant 83 = .ok (.invokevirtual 158, 3) := by decide +kernel
theorem dX8_setDeterminant_86 : decode cX8_setDeterminant 86 = .ok (.i2l, 1) := by decide +kernel
theorem dX8_setDeterminant_87 : decode cX8_setDeterminant 87 = .ok (.lastore, 1) := by decide +kernel
theorem dX8_setDeterminant_88 : decode cX8_setDeterminant 88 = .ok (.iinc 5 1, 3) := by decide +kernel
theorem dX8_setDeterminant_91 : decode cX8_setDeterminant 91 = .ok (.goto (-62), 3) := by decide +kernel
theorem dX8_setDeterminant_94 : decode cX8_setDeterminant 94 = .ok (.iinc 3 1, 3) := by decide +kernel
theorem dX8_setDeterminant_97 : decode cX8_setDeterminant 97 = .ok (.iinc 4 1, 3) := by decide +kernel
theorem dX8_setDeterminant_100 : decode cX8_setDeterminant 100 = .ok (.goto (-95), 3) := by decide +kernel
theorem dX8_setDeterminant_103 : decode cX8_setDeterminant 103 = .ok (.aload_n 0, 1) := by decide +kernel
theorem dX8_setDeterminant_104 : decode cX8_setDeterminant 104 = .ok (.aload_n 0, 1) := by decide +kernel
theorem dX8_setDeterminant_105 : decode cX8_setDeterminant 105 = .ok (.getfield 130, 3) := by decide +kernel
theorem dX8_setDeterminant_108 : decode cX8_setDeterminant 108 = .ok (.invokevirtual 176, 3) := by decide +kernel
theorem dX8_setDeterminant_111 : decode cX8_setDeterminant 111 = .ok (.lreturn, 1) := by decide +kernel
theorem dX8_takesLoads_0 : decode cX8_takesLoads 0 = .ok (.iconst 0, 1) := by decide +kernel
theorem dX8_takesLoads_1 : decode cX8_takesLoads 1 = .ok (.istore_n 1, 1) := by decide +kernel
theorem dX8_takesLoads_2 : decode cX8_takesLoads 2 = .ok (.iload_n 1, 1) := by decide +kernel
theorem dX8_takesLoads_3 : decode cX8_takesLoads 3 = .ok (.bipush 12, 2) := by decide +kernel
theorem dX8_takesLoads_5 : decode cX8_takesLoads 5 = .ok (.if_icmp .ge 21, 3) := by decide +kernel
theorem dX8_takesLoads_8 : decode cX8_takesLoads 8 = .ok (.aload_n 0, 1) := by decide +kernel
theorem dX8_takesLoads_9 : decode cX8_takesLoads 9 = .ok (.getfield 56, 3) := by decide +kernel
theorem dX8_takesLoads_12 : decode cX8_takesLoads 12 = .ok (.iload_n 1, 1) := by decide +kernel
theorem dX8_takesLoads_13 : decode cX8_takesLoads 13 = .ok (.aload_n 0, 1) := by decide +kernel
theorem dX8_takesLoads_14 : decode cX8_takesLoads 14 = .ok (.getfield 19, 3) := by decide +kernel
theorem dX8_takesLoads_17 : decode cX8_takesLoads 17 = .ok (.iload_n 1, 1) := by decide +kernel
theorem dX8_takesLoads_18 : decode cX8_takesLoads 18 = .ok (.iaload, 1) := by decide +kernel
theorem dX8_takesLoads_19 : decode cX8_takesLoads 19 = .ok (.iastore, 1) := by decide +kernel
theorem dX8_takesLoads_20 : decode cX8_takesLoads 20 = .ok (.iinc 1 1, 3) := by decide +kernel
theorem dX8_takesLoads_23 : decode cX8_takesLoads 23 = .ok (.goto (-21), 3) := by decide +kernel
theorem dX8_takesLoads_26 : decode cX8_takesLoads 26 = .ok (.return_, 1) := by decide +kernel
theorem dX8_takesNone_0 : decode cX8_takesNone 0 = .ok (.iconst 0, 1) := by decide +kernel
theorem dX8_takesNone_1 : decode cX8_takesNone 1 = .ok (.istore_n 1, 1) := by decide +kernel
theorem dX8_takesNone_2 : decode cX8_takesNone 2 = .ok (.iload_n 1, 1) := by decide +kernel
theorem dX8_takesNone_3 : decode cX8_takesNone 3 = .ok (.bipush 12, 2) := by decide +kernel
theorem dX8_takesNone_5 : decode cX8_takesNone 5 = .ok (.if_icmp .ge 16, 3) := by decide +kernel
theorem dX8_takesNone_8 : decode cX8_takesNone 8 = .ok (.aload_n 0, 1) := by decide +kernel
theorem dX8_takesNone_9 : decode cX8_takesNone 9 = .ok (.getfield 56, 3) := by decide +kernel
theorem dX8_takesNone_12 : decode cX8_takesNone 12 = .ok (.iload_n 1, 1) := by decide +kernel
theorem dX8_takesNone_13 : decode cX8_takesNone 13 = .ok (.iconst 0, 1) := by decide +kernel
theorem dX8_takesNone_14 : decode cX8_takesNone 14 = .ok (.iastore, 1) := by decide +kernel
theorem dX8_takesNone_15 : decode cX8_takesNone 15 = .ok (.iinc 1 1, 3) := by decide +kernel
theorem dX8_takesNone_18 : decode cX8_takesNone 18 = .ok (.goto (-16), 3) := by decide +kernel
theorem dX8_takesNone_21 : decode cX8_takesNone 21 = .ok (.return_, 1) := by decide +kernel
theorem dX8_laysColumn_0 : decode cX8_laysColumn 0 = .ok (.iconst 0, 1) := by decide +kernel
theorem dX8_laysColumn_1 : decode cX8_laysColumn 1 = .ok (.istore_n 1, 1) := by decide +kernel
theorem dX8_laysColumn_2 : decode cX8_laysColumn 2 = .ok (.iload_n 1, 1) := by decide +kernel
theorem dX8_laysColumn_3 : decode cX8_laysColumn 3 = .ok (.aload_n 0, 1) := by decide +kernel
theorem dX8_laysColumn_4 : decode cX8_laysColumn 4 = .ok (.getfield 130, 3) := by decide +kernel
theorem dX8_laysColumn_7 : decode cX8_laysColumn 7 = .ok (.if_icmp .ge 36, 3) := by decide +kernel
theorem dX8_laysColumn_10 : decode cX8_laysColumn 10 = .ok (.aload_n 0, 1) := by decide +kernel
theorem dX8_laysColumn_11 : decode cX8_laysColumn 11 = .ok (.getfield 50, 3) := by decide +kernel
theorem dX8_laysColumn_14 : decode cX8_laysColumn 14 = .ok (.iload_n 1, 1) := by decide +kernel
theorem dX8_laysColumn_15 : decode cX8_laysColumn 15 = .ok (.aload_n 0, 1) := by decide +kernel
theorem dX8_laysColumn_16 : decode cX8_laysColumn 16 = .ok (.getfield 56, 3) := by decide +kernel
theorem dX8_laysColumn_19 : decode cX8_laysColumn 19 = .ok (.iconst 2, 1) := by decide +kernel
theorem dX8_laysColumn_20 : decode cX8_laysColumn 20 = .ok (.aload_n 0, 1) := by decide +kernel
theorem dX8_laysColumn_21 : decode cX8_laysColumn 21 = .ok (.getfield 40, 3) := by decide +kernel
theorem dX8_laysColumn_24 : decode cX8_laysColumn 24 = .ok (.iload_n 1, 1) := by decide +kernel
theorem dX8_laysColumn_25 : decode cX8_laysColumn 25 = .ok (.iaload, 1) := by decide +kernel
theorem dX8_laysColumn_26 : decode cX8_laysColumn 26 = .ok (.imul, 1) := by decide +kernel
theorem dX8_laysColumn_27 : decode cX8_laysColumn 27 = .ok (.aload_n 0, 1) := by decide +kernel
theorem dX8_laysColumn_28 : decode cX8_laysColumn 28 = .ok (.getfield 43, 3) := by decide +kernel
theorem dX8_laysColumn_31 : decode cX8_laysColumn 31 = .ok (.iload_n 1, 1) := by decide +kernel
theorem dX8_laysColumn_32 : decode cX8_laysColumn 32 = .ok (.iaload, 1) := by decide +kernel
theorem dX8_laysColumn_33 : decode cX8_laysColumn 33 = .ok (.iadd, 1) := by decide +kernel
theorem dX8_laysColumn_34 : decode cX8_laysColumn 34 = .ok (.iaload, 1) := by decide +kernel
theorem dX8_laysColumn_35 : decode cX8_laysColumn 35 = .ok (.ineg, 1) := by decide +kernel
theorem dX8_laysColumn_36 : decode cX8_laysColumn 36 = .ok (.iastore, 1) := by decide +kernel
theorem dX8_laysColumn_37 : decode cX8_laysColumn 37 = .ok (.iinc 1 1, 3) := by decide +kernel
theorem dX8_laysColumn_40 : decode cX8_laysColumn 40 = .ok (.goto (-38), 3) := by decide +kernel
theorem dX8_laysColumn_43 : decode cX8_laysColumn 43 = .ok (.return_, 1) := by decide +kernel
set_option maxRecDepth 20000 in
theorem ggX8_bears_X8_kindOf : GoodIn wsX8_bears wsX8_kindOf := goodIn_r _ [9, 10, 11, 12, 8, 13, 14, 15, 3, 4, 16, 17, 18, 19, 20, 21, 22, 23, 24, 25, 26, 27, 28, 29, 30, 31, 32, 33, 34, 35, 36, 37, 38, 39, 40, 41, 42, 43, 44, 45, 46, 47, 48, 49, 50, 51, 52, 53, 54, 55, 56, 83, 84, 85, 86, 87, 88, 89, 90, 91, 92, 93, 94, 95, 96, 97, 98, 99, 100, 101, 102, 103, 104, 105, 106, 107, 108, 109, 110, 111, 112, 113, 114, 115, 116, 117] (by decide +kernel) (by decide +kernel)
set_option maxRecDepth 20000 in
theorem gX8_bears_X8_kindOf : GoodIn wsX8_bears (wsV RX8 180 RX8 yX8_kindOf wsX8_kindOf) := goodIn_app (goodIn_of _ (by decide +kernel)) ggX8_bears_X8_kindOf
set_option maxRecDepth 20000 in
theorem ggX8_bears_X8_isFirm : GoodIn wsX8_bears wsX8_isFirm := goodIn_r _ [59] (by decide +kernel) (by decide +kernel)
set_option maxRecDepth 20000 in
theorem gX8_bears_X8_isFirm : GoodIn wsX8_bears (va_wsS RX8 183 yX8_isFirm wsX8_isFirm) := goodIn_app (goodIn_of _ (by decide +kernel)) ggX8_bears_X8_isFirm
set_option maxRecDepth 20000 in
theorem ggX8_bears_X8_laysColumn : GoodIn wsX8_bears wsX8_laysColumn := goodIn_r _ [63, 4, 64, 65, 17, 18, 83, 84, 85, 86, 87, 88, 89, 90, 91, 92, 93, 94, 95, 96, 97, 98, 99, 100, 101, 102, 103, 104, 105, 106, 107, 108, 109, 110, 111, 112, 113, 114, 115, 116, 117] (by decide +kernel) (by decide +kernel)
set_option maxRecDepth 20000 in
theorem gX8_bears_X8_laysColumn : GoodIn wsX8_bears (wsV RX8 186 RX8 yX8_laysColumn wsX8_laysColumn) := goodIn_app (goodIn_of _ (by decide +kernel)) ggX8_bears_X8_laysColumn
set_option maxRecDepth 20000 in
theorem ggX8_bears_X8_bits : GoodIn wsX8_bears wsX8_bits := goodIn_r _ [56] (by decide +kernel) (by decide +kernel)
set_option maxRecDepth 20000 in
theorem gX8_bears_X8_bits : GoodIn wsX8_bears (va_wsS RX8 165 yX8_bits wsX8_bits) := goodIn_app (goodIn_of _ (by decide +kernel)) ggX8_bears_X8_bits
set_option maxRecDepth 20000 in
theorem ggX8_bears_X8_addsSet : GoodIn wsX8_bears wsX8_addsSet := goodIn_r _ [69, 3, 70, 1, 2, 25, 26, 8, 27, 71, 72, 73, 74, 4, 16, 64, 17, 18, 28, 29, 30, 31, 32, 33, 34, 35, 75, 76, 77, 78, 79, 80, 81, 82, 83, 84, 85, 86, 87, 88, 89, 90, 91, 92, 93, 94, 95, 96, 97, 98, 99, 100, 101, 102, 103, 104, 105, 106, 107, 108, 109, 110, 111, 112, 113, 114, 115, 116, 117] (by decide +kernel) (by decide +kernel)
set_option maxRecDepth 20000 in
theorem gX8_bears_X8_addsSet : GoodIn wsX8_bears (wsV RX8 193 RX8 yX8_addsSet wsX8_addsSet) := goodIn_app (goodIn_of _ (by decide +kernel)) ggX8_bears_X8_addsSet
theorem dX8_bears_0 : decode cX8_bears 0 = .ok (.aload_n 0, 1) := by decide +kernel
theorem dX8_bears_1 : decode cX8_bears 1 = .ok (.iload_n 1, 1) := by decide +kernel
theorem dX8_bears_2 : decode cX8_bears 2 = .ok (.invokevirtual 180, 3) := by decide +kernel
theorem dX8_bears_5 : decode cX8_bears 5 = .ok (.invokestatic 183, 3) := by decide +kernel
theorem dX8_bears_8 : decode cX8_bears 8 = .ok (.ifCond .ne 5, 3) := by decide +kernel
theorem dX8_bears_11 : decode cX8_bears 11 = .ok (.iconst 0, 1) := by decide +kernel
theorem dX8_bears_12 : decode cX8_bears 12 = .ok (.ireturn, 1) := by decide +kernel
theorem dX8_bears_13 : decode cX8_bears 13 = .ok (.aload_n 0, 1) := by decide +kernel
theorem dX8_bears_14 : decode cX8_bears 14 = .ok (.invokevirtual 186, 3) := by decide +kernel
theorem dX8_bears_17 : decode cX8_bears 17 = .ok (.aload_n 0, 1) := by decide +kernel
theorem dX8_bears_18 : decode cX8_bears 18 = .ok (.lconst 0, 1) := by decide +kernel
theorem dX8_bears_19 : decode cX8_bears 19 = .ok (.putfield 189, 3) := by decide +kernel
theorem dX8_bears_22 : decode cX8_bears 22 = .ok (.iconst 0, 1) := by decide +kernel
theorem dX8_bears_23 : decode cX8_bears 23 = .ok (.istore_n 2, 1) := by decide +kernel
theorem dX8_bears_24 : decode cX8_bears 24 = .ok (.iload_n 2, 1) := by decide +kernel
theorem dX8_bears_25 : decode cX8_bears 25 = .ok (.bipush 11, 2) := by decide +kernel
theorem dX8_bears_27 : decode cX8_bears 27 = .ok (.if_icmp .ge 16, 3) := by decide +kernel
theorem dX8_bears_30 : decode cX8_bears 30 = .ok (.aload_n 0, 1) := by decide +kernel
theorem dX8_bears_31 : decode cX8_bears 31 = .ok (.getfield 53, 3) := by decide +kernel
theorem dX8_bears_34 : decode cX8_bears 34 = .ok (.iload_n 2, 1) := by decide +kernel
theorem dX8_bears_35 : decode cX8_bears 35 = .ok (.lconst 0, 1) := by decide +kernel
theorem dX8_bears_36 : decode cX8_bears 36 = .ok (.lastore, 1) := by decide +kernel
theorem dX8_bears_37 : decode cX8_bears 37 = .ok (.iinc 2 1, 3) := by decide +kernel
theorem dX8_bears_40 : decode cX8_bears 40 = .ok (.goto (-16), 3) := by decide +kernel
theorem dX8_bears_43 : decode cX8_bears 43 = .ok (.iconst 0, 1) := by decide +kernel
theorem dX8_bears_44 : decode cX8_bears 44 = .ok (.istore_n 2, 1) := by decide +kernel
theorem dX8_bears_45 : decode cX8_bears 45 = .ok (.iload_n 2, 1) := by decide +kernel
theorem dX8_bears_46 : decode cX8_bears 46 = .ok (.iconst 1, 1) := by decide +kernel
theorem dX8_bears_47 : decode cX8_bears 47 = .ok (.aload_n 0, 1) := by decide +kernel
theorem dX8_bears_48 : decode cX8_bears 48 = .ok (.getfield 88, 3) := by decide +kernel
theorem dX8_bears_51 : decode cX8_bears 51 = .ok (.ishl, 1) := by decide +kernel
theorem dX8_bears_52 : decode cX8_bears 52 = .ok (.if_icmp .ge 34, 3) := by decide +kernel
theorem dX8_bears_55 : decode cX8_bears 55 = .ok (.iload_n 2, 1) := by decide +kernel
theorem dX8_bears_56 : decode cX8_bears 56 = .ok (.iload_n 1, 1) := by decide +kernel
theorem dX8_bears_57 : decode cX8_bears 57 = .ok (.iconst (-1), 1) := by decide +kernel
theorem dX8_bears_58 : decode cX8_bears 58 = .ok (.ixor, 1) := by decide +kernel
theorem dX8_bears_59 : decode cX8_bears 59 = .ok (.iand, 1) := by decide +kernel
theorem dX8_bears_60 : decode cX8_bears 60 = .ok (.ifCond .ne 20, 3) := by decide +kernel
theorem dX8_bears_63 : decode cX8_bears 63 = .ok (.iload_n 2, 1) := by decide +kernel
theorem dX8_bears_64 : decode cX8_bears 64 = .ok (.invokestatic 165, 3) := by decide +kernel
theorem dX8_bears_67 : decode cX8_bears 67 = .ok (.aload_n 0, 1) := by decide +kernel
theorem dX8_bears_68 : decode cX8_bears 68 = .ok (.getfield 130, 3) := by decide +kernel
theorem dX8_bears_71 : decode cX8_bears 71 = .ok (.if_icmp .ne 9, 3) := by decide +kernel
theorem dX8_bears_74 : decode cX8_bears 74 = .ok (.aload_n 0, 1) := by decide +kernel
theorem dX8_bears_75 : decode cX8_bears 75 = .ok (.iload_n 2, 1) := by decide +kernel
theorem dX8_bears_76 : decode cX8_bears 76 = .ok (.iload_n 1, 1) := by decide +kernel
theorem dX8_bears_77 : decode cX8_bears 77 = .ok (.invokevirtual 193, 3) := by decide +kernel
theorem dX8_bears_80 : decode cX8_bears 80 = .ok (.iinc 2 1, 3) := by decide +kernel
theorem dX8_bears_83 : decode cX8_bears 83 = .ok (.goto (-38), 3) := by decide +kernel
theorem dX8_bears_86 : decode cX8_bears 86 = .ok (.iconst 1, 1) := by decide +kernel
theorem dX8_bears_87 : decode cX8_bears 87 = .ok (.ireturn, 1) := by decide +kernel
set_option maxRecDepth 20000 in
theorem ggX8_addsSet_X8_isOn : GoodIn wsX8_addsSet wsX8_isOn := goodIn_r _ [8] (by decide +kernel) (by decide +kernel)
set_option maxRecDepth 20000 in
theorem gX8_addsSet_X8_isOn : GoodIn wsX8_addsSet (va_wsS RX8 113 yX8_isOn wsX8_isOn) := goodIn_app (goodIn_of _ (by decide +kernel)) ggX8_addsSet_X8_isOn
set_option maxRecDepth 20000 in
theorem ggX8_addsSet_X8_setDeterminant : GoodIn wsX8_addsSet wsX8_setDeterminant := goodIn_r _ [12, 1, 13, 14, 15, 16, 17, 5, 6, 7, 8, 18, 19, 20, 21, 22, 23, 24, 25, 26, 27, 28, 29, 30, 31, 32, 33, 34, 35, 36, 37, 38, 39, 40, 41, 42, 43, 44, 45, 46, 47, 48, 49, 50, 51, 52, 53, 54, 55, 56, 57, 58, 59, 60, 61, 62, 63, 64, 65, 66, 67, 68] (by decide +kernel) (by decide +kernel)
set_option maxRecDepth 20000 in
theorem gX8_addsSet_X8_setDeterminant : GoodIn wsX8_addsSet (wsV RX8 197 RX8 yX8_setDeterminant wsX8_setDeterminant) := goodIn_app (goodIn_of _ (by decide +kernel)) ggX8_addsSet_X8_setDeterminant
theorem dX8_addsSet_0 : decode cX8_addsSet 0 = .ok (.lconst 1, 1) := by decide +kernel
theorem dX8_addsSet_1 : decode cX8_addsSet 1 = .ok (.lstore_n 3, 1) := by decide +kernel
theorem dX8_addsSet_2 : decode cX8_addsSet 2 = .ok (.iconst 0, 1) := by decide +kernel
theorem dX8_addsSet_3 : decode cX8_addsSet 3 = .ok (.istore 5, 2) := by decide +kernel
theorem dX8_addsSet_5 : decode cX8_addsSet 5 = .ok (.iload 5, 2) := by decide +kernel
theorem dX8_addsSet_7 : decode cX8_addsSet 7 = .ok (.aload_n 0, 1) := by decide +kernel
theorem dX8_addsSet_8 : decode cX8_addsSet 8 = .ok (.getfield 88, 3) := by decide +kernel
theorem dX8_addsSet_11 : decode cX8_addsSet 11 = .ok (.if_icmp .ge 37, 3) := by decide +kernel
theorem dX8_addsSet_14 : decode cX8_addsSet 14 = .ok (.lload_n 3, 1) := by decide +kernel
theorem dX8_addsSet_15 : decode cX8_addsSet 15 = .ok (.iload_n 2, 1) := by decide +kernel
theorem dX8_addsSet_16 : decode cX8_addsSet 16 = .ok (.iload_n 1, 1) := by decide +kernel
theorem dX8_addsSet_17 : decode cX8_addsSet 17 = .ok (.iconst (-1), 1) := by decide +kernel
theorem dX8_addsSet_18 : decode cX8_addsSet 18 = .ok (.ixor, 1) := by decide +kernel
theorem dX8_addsSet_19 : decode cX8_addsSet 19 = .ok (.iand, 1) := by decide +kernel
theorem dX8_addsSet_20 : decode cX8_addsSet 20 = .ok (.iload 5, 2) := by decide +kernel
theorem dX8_addsSet_22 : decode cX8_addsSet 22 = .ok (.invokestatic 113, 3) := by decide +kernel
theorem dX8_addsSet_25 : decode cX8_addsSet 25 = .ok (.ifCond .eq 14, 3) := by decide +kernel
theorem dX8_addsSet_28 : decode cX8_addsSet 28 = .ok (.aload_n 0, 1) := by decide +kernel
theorem dX8_addsSet_29 : decode cX8_addsSet 29 = .ok (.getfield 28, 3) := by decide +kernel
theorem dX8_addsSet_32 : decode cX8_addsSet 32 = .ok (.iload 5, 2) := by decide +kernel
theorem dX8_addsSet_34 : decode cX8_addsSet 34 = .ok (.iaload, 1) := by decide +kernel
theorem dX8_addsSet_35 : decode cX8_addsSet 35 = .ok (.i2l, 1) := by decide +kernel
theorem dX8_addsSet_36 : decode cX8_addsSet 36 = .ok (.goto 4, 3) := by decide +kernel
theorem dX8_addsSet_39 : decode cX8_addsSet 39 = .ok (.lconst 1, 1) := by decide +kernel
theorem dX8_addsSet_40 : decode cX8_addsSet 40 = .ok (.lmul, 1) := by decide +kernel
theorem dX8_addsSet_41 : decode cX8_addsSet 41 = .ok (.lstore_n 3, 1) := by decide +kernel
theorem dX8_addsSet_42 : decode cX8_addsSet 42 = .ok (.iinc 5 1, 3) := by decide +kernel
theorem dX8_addsSet_45 : decode cX8_addsSet 45 = .ok (.goto (-40), 3) := by decide +kernel
theorem dX8_addsSet_48 : decode cX8_addsSet 48 = .ok (.aload_n 0, 1) := by decide +kernel
theorem dX8_addsSet_49 : decode cX8_addsSet 49 = .ok (.iload_n 1, 1) := by decide +kernel
theorem dX8_addsSet_50 : decode cX8_addsSet 50 = .ok (.iconst (-1), 1) := by decide +kernel
theorem dX8_addsSet_51 : decode cX8_addsSet 51 = .ok (.invokevirtual 197, 3) := by decide +kernel
theorem dX8_addsSet_54 : decode cX8_addsSet 54 = .ok (.lstore 5, 2) := by decide +kernel
theorem dX8_addsSet_56 : decode cX8_addsSet 56 = .ok (.aload_n 0, 1) := by decide +kernel
theorem dX8_addsSet_57 : decode cX8_addsSet 57 = .ok (.dup, 1) := by decide +kernel
theorem dX8_addsSet_58 : decode cX8_addsSet 58 = .ok (.getfield 189, 3) := by decide +kernel
theorem dX8_addsSet_61 : decode cX8_addsSet 61 = .ok (.lload_n 3, 1) := by decide +kernel
theorem dX8_addsSet_62 : decode cX8_addsSet 62 = .ok (.lload 5, 2) := by decide +kernel
theorem dX8_addsSet_64 : decode cX8_addsSet 64 = .ok (.lmul, 1) := by decide +kernel
theorem dX8_addsSet_65 : decode cX8_addsSet 65 = .ok (.lload 5, 2) := by decide +kernel
theorem dX8_addsSet_67 : decode cX8_addsSet 67 = .ok (.lmul, 1) := by decide +kernel
theorem dX8_addsSet_68 : decode cX8_addsSet 68 = .ok (.ladd, 1) := by decide +kernel
theorem dX8_addsSet_69 : decode cX8_addsSet 69 = .ok (.putfield 189, 3) := by decide +kernel
theorem dX8_addsSet_72 : decode cX8_addsSet 72 = .ok (.iconst 0, 1) := by decide +kernel
theorem dX8_addsSet_73 : decode cX8_addsSet 73 = .ok (.istore 7, 2) := by decide +kernel
theorem dX8_addsSet_75 : decode cX8_addsSet 75 = .ok (.iload 7, 2) := by decide +kernel
theorem dX8_addsSet_77 : decode cX8_addsSet 77 = .ok (.aload_n 0, 1) := by decide +kernel
theorem dX8_addsSet_78 : decode cX8_addsSet 78 = .ok (.getfield 88, 3) := by decide +kernel
theorem dX8_addsSet_81 : decode cX8_addsSet 81 = .ok (.if_icmp .ge 51, 3) := by decide +kernel
theorem dX8_addsSet_84 : decode cX8_addsSet 84 = .ok (.lload 5, 2) := by decide +kernel
theorem dX8_addsSet_86 : decode cX8_addsSet 86 = .ok (.lconst 0, 1) := by decide +kernel
theorem dX8_addsSet_87 : decode cX8_addsSet 87 = .ok (.lcmp, 1) := by decide +kernel
theorem dX8_addsSet_88 : decode cX8_addsSet 88 = .ok (.ifCond .eq 44, 3) := by decide +kernel
theorem dX8_addsSet_91 : decode cX8_addsSet 91 = .ok (.aload_n 0, 1) := by decide +kernel
theorem dX8_addsSet_92 : decode cX8_addsSet 92 = .ok (.getfield 53, 3) := by decide +kernel
theorem dX8_addsSet_95 : decode cX8_addsSet 95 = .ok (.iload 7, 2) := by decide +kernel
theorem dX8_addsSet_97 : decode cX8_addsSet 97 = .ok (.dup2, 1) := by decide +kernel
theorem dX8_addsSet_98 : decode cX8_addsSet 98 = .ok (.laload, 1) := by decide +kernel
theorem dX8_addsSet_99 : decode cX8_addsSet 99 = .ok (.iload_n 1, 1) := by decide +kernel
theorem dX8_addsSet_100 : decode cX8_addsSet 100 = .ok (.iload 7, 2) := by decide +kernel
theorem dX8_addsSet_102 : decode cX8_addsSet 102 = .ok (.invokestatic 113, 3) := by decide +kernel
theorem dX8_addsSet_105 : decode cX8_addsSet 105 = .ok (.ifCond .eq 18, 3) := by decide +kernel
theorem dX8_addsSet_108 : decode cX8_addsSet 108 = .ok (.lload_n 3, 1) := by decide +kernel
theorem dX8_addsSet_109 : decode cX8_addsSet 109 = .ok (.lload 5, 2) := by decide +kernel
theorem dX8_addsSet_111 : decode cX8_addsSet 111 = .ok (.lmul, 1) := by decide +kernel
theorem dX8_addsSet_112 : decode cX8_addsSet 112 = .ok (.aload_n 0, 1) := by decide +kernel
theorem dX8_addsSet_113 : decode cX8_addsSet 113 = .ok (.iload_n 1, 1) := by decide +kernel
theorem dX8_addsSet_114 : decode cX8_addsSet 114 = .ok (.iload 7, 2) := by decide +kernel
theorem dX8_addsSet_116 : decode cX8_addsSet 116 = .ok (.invokevirtual 197, 3) := by decide +kernel
theorem dX8_addsSet_119 : decode cX8_addsSet 119 = .ok (.lmul, 1) := by decide +kernel
theorem dX8_addsSet_120 : decode cX8_addsSet 120 = .ok (.goto 4, 3) := by decide +kernel
theorem dX8_addsSet_123 : decode cX8_addsSet 123 = .ok (.lconst 0, 1) := by decide +kernel
theorem dX8_addsSet_124 : decode cX8_addsSet 124 = .ok (.ladd, 1) := by decide +kernel
theorem dX8_addsSet_125 : decode cX8_addsSet 125 = .ok (.lastore, 1) := by decide +kernel
theorem dX8_addsSet_126 : decode cX8_addsSet 126 = .ok (.iinc 7 1, 3) := by decide +kernel
theorem dX8_addsSet_129 : decode cX8_addsSet 129 = .ok (.goto (-54), 3) := by decide +kernel
theorem dX8_addsSet_132 : decode cX8_addsSet 132 = .ok (.return_, 1) := by decide +kernel
set_option maxRecDepth 20000 in
theorem ggX8_told_X8_common : GoodIn wsX8_told wsX8_common := goodIn_r _ [5, 6, 7, 4, 8] (by decide +kernel) (by decide +kernel)
set_option maxRecDepth 20000 in
theorem gX8_told_X8_common : GoodIn wsX8_told (va_wsS RX8 145 yX8_common wsX8_common) := goodIn_app (goodIn_of _ (by decide +kernel)) ggX8_told_X8_common
theorem dX8_told_0 : decode cX8_told 0 = .ok (.lload_n 0, 1) := by decide +kernel
theorem dX8_told_1 : decode cX8_told 1 = .ok (.lload_n 2, 1) := by decide +kernel
theorem dX8_told_2 : decode cX8_told 2 = .ok (.invokestatic 145, 3) := by decide +kernel
theorem dX8_told_5 : decode cX8_told 5 = .ok (.lstore 5, 2) := by decide +kernel
theorem dX8_told_7 : decode cX8_told 7 = .ok (.lload_n 2, 1) := by decide +kernel
theorem dX8_told_8 : decode cX8_told 8 = .ok (.lconst 0, 1) := by decide +kernel
theorem dX8_told_9 : decode cX8_told 9 = .ok (.lcmp, 1) := by decide +kernel
theorem dX8_told_10 : decode cX8_told 10 = .ok (.ifCond .ge 9, 3) := by decide +kernel
theorem dX8_told_13 : decode cX8_told 13 = .ok (.ldc2_w 201, 3) := by decide +kernel
theorem dX8_told_16 : decode cX8_told 16 = .ok (.goto 4, 3) := by decide +kernel
theorem dX8_told_19 : decode cX8_told 19 = .ok (.lconst 1, 1) := by decide +kernel
theorem dX8_told_20 : decode cX8_told 20 = .ok (.lstore 7, 2) := by decide +kernel
theorem dX8_told_22 : decode cX8_told 22 = .ok (.lload 7, 2) := by decide +kernel
theorem dX8_told_24 : decode cX8_told 24 = .ok (.iload 4, 2) := by decide +kernel
theorem dX8_told_26 : decode cX8_told 26 = .ok (.ifCond .eq 7, 3) := by decide +kernel
theorem dX8_told_29 : decode cX8_told 29 = .ok (.lload_n 2, 1) := by decide +kernel
theorem dX8_told_30 : decode cX8_told 30 = .ok (.goto 4, 3) := by decide +kernel
theorem dX8_told_33 : decode cX8_told 33 = .ok (.lload_n 0, 1) := by decide +kernel
theorem dX8_told_34 : decode cX8_told 34 = .ok (.lmul, 1) := by decide +kernel
theorem dX8_told_35 : decode cX8_told 35 = .ok (.lload 5, 2) := by decide +kernel
theorem dX8_told_37 : decode cX8_told 37 = .ok (.ldiv, 1) := by decide +kernel
theorem dX8_told_38 : decode cX8_told 38 = .ok (.lreturn, 1) := by decide +kernel
set_option maxRecDepth 20000 in
theorem ggX8_pull_X8_takesLoads : GoodIn wsX8_pull wsX8_takesLoads := goodIn_r _ [9, 10, 11, 105, 106, 107, 108, 109, 110, 111, 112, 113, 114, 115, 116, 117, 118, 119, 120, 121, 122, 123, 124, 125, 126, 127, 128, 129, 130, 131, 132, 133, 134, 135, 136, 137, 138, 139] (by decide +kernel) (by decide +kernel)
set_option maxRecDepth 20000 in
theorem gX8_pull_X8_takesLoads : GoodIn wsX8_pull (wsV RX8 203 RX8 yX8_takesLoads wsX8_takesLoads) := goodIn_app (goodIn_of _ (by decide +kernel)) ggX8_pull_X8_takesLoads
set_option maxRecDepth 20000 in
theorem ggX8_pull_X8_isBar : GoodIn wsX8_pull wsX8_isBar := goodIn_r _ [15, 16, 17, 18, 8, 19, 105, 106, 107, 108, 109, 110, 111, 112, 113, 114, 115, 116, 117, 118, 119, 120, 121, 122, 123, 124, 125, 126, 127, 128, 129, 130, 131, 132, 133, 134, 135, 136, 137, 138, 139] (by decide +kernel) (by decide +kernel)
set_option maxRecDepth 20000 in
theorem gX8_pull_X8_isBar : GoodIn wsX8_pull (wsV RX8 110 RX8 yX8_isBar wsX8_isBar) := goodIn_app (goodIn_of _ (by decide +kernel)) ggX8_pull_X8_isBar
set_option maxRecDepth 20000 in
theorem ggX8_pull_X8_isOn : GoodIn wsX8_pull wsX8_isOn := goodIn_r _ [22] (by decide +kernel) (by decide +kernel)
set_option maxRecDepth 20000 in
theorem gX8_pull_X8_isOn : GoodIn wsX8_pull (va_wsS RX8 113 yX8_isOn wsX8_isOn) := goodIn_app (goodIn_of _ (by decide +kernel)) ggX8_pull_X8_isOn
set_option maxRecDepth 20000 in
theorem ggX8_pull_X8_bears : GoodIn wsX8_pull wsX8_bears := goodIn_r _ [26, 4, 3, 16, 27, 28, 29, 30, 8, 31, 32, 33, 34, 35, 36, 37, 38, 39, 40, 41, 42, 43, 44, 45, 46, 20, 21, 22, 47, 48, 49, 50, 51, 52, 53, 54, 55, 56, 57, 58, 59, 60, 61, 62, 63, 64, 65, 66, 67, 68, 69, 70, 71, 72, 73, 74, 75, 76, 77, 78, 79, 80, 81, 82, 83, 10, 84, 85, 86, 87, 88, 89, 90, 91, 92, 93, 94, 95, 96, 97, 98, 99, 100, 105, 106, 107, 108, 109, 110, 111, 112, 113, 114, 115, 116, 117, 118, 119, 120, 121, 122, 123, 124, 125, 126, 127, 128, 129, 130, 131, 132, 133, 134, 135, 136, 137, 138, 139] (by decide +kernel) (by decide +kernel)
set_option maxRecDepth 20000 in
theorem gX8_pull_X8_bears : GoodIn wsX8_pull (wsV RX8 206 RX8 yX8_bears wsX8_bears) := goodIn_app (goodIn_of _ (by decide +kernel)) ggX8_pull_X8_bears
set_option maxRecDepth 20000 in
theorem ggX8_pull_X8_told : GoodIn wsX8_pull wsX8_told := goodIn_r _ [103, 104, 63, 64, 8, 65, 66, 67, 68] (by decide +kernel) (by decide +kernel)
set_option maxRecDepth 20000 in
theorem gX8_pull_X8_told : GoodIn wsX8_pull (va_wsS RX8 209 yX8_told wsX8_told) := goodIn_app (goodIn_of _ (by decide +kernel)) ggX8_pull_X8_told
theorem dX8_pull_0 : decode cX8_pull 0 = .ok (.aload_n 0, 1) := by decide +kernel
theorem dX8_pull_1 : decode cX8_pull 1 = .ok (.invokevirtual 203, 3) := by decide +kernel
theorem dX8_pull_4 : decode cX8_pull 4 = .ok (.aload_n 0, 1) := by decide +kernel
theorem dX8_pull_5 : decode cX8_pull 5 = .ok (.aload_n 0, 1) := by decide +kernel
theorem dX8_pull_6 : decode cX8_pull 6 = .ok (.iload_n 1, 1) := by decide +kernel
theorem dX8_pull_7 : decode cX8_pull 7 = .ok (.invokevirtual 110, 3) := by decide +kernel
theorem dX8_pull_10 : decode cX8_pull 10 = .ok (.ifCond .eq 29, 3) := by decide +kernel
theorem dX8_pull_13 : decode cX8_pull 13 = .ok (.aload_n 0, 1) := by decide +kernel
theorem dX8_pull_14 : decode cX8_pull 14 = .ok (.getfield 107, 3) := by decide +kernel
theorem dX8_pull_17 : decode cX8_pull 17 = .ok (.iload_n 1, 1) := by decide +kernel
theorem dX8_pull_18 : decode cX8_pull 18 = .ok (.invokestatic 113, 3) := by decide +kernel
theorem dX8_pull_21 : decode cX8_pull 21 = .ok (.ifCond .eq 18, 3) := by decide +kernel
theorem dX8_pull_24 : decode cX8_pull 24 = .ok (.aload_n 0, 1) := by decide +kernel
theorem dX8_pull_25 : decode cX8_pull 25 = .ok (.aload_n 0, 1) := by decide +kernel
theorem dX8_pull_26 : decode cX8_pull 26 = .ok (.getfield 107, 3) := by decide +kernel
theorem dX8_pull_29 : decode cX8_pull 29 = .ok (.invokevirtual 206, 3) := by decide +kernel
theorem dX8_pull_32 : decode cX8_pull 32 = .ok (.ifCond .eq 7, 3) := by decide +kernel
theorem dX8_pull_35 : decode cX8_pull 35 = .ok (.iconst 0, 1) := by decide +kernel
theorem dX8_pull_36 : decode cX8_pull 36 = .ok (.goto 4, 3) := by decide +kernel
theorem dX8_pull_39 : decode cX8_pull 39 = .ok (.iconst 1, 1) := by decide +kernel
theorem dX8_pull_40 : decode cX8_pull 40 = .ok (.putfield 77, 3) := by decide +kernel
theorem dX8_pull_43 : decode cX8_pull 43 = .ok (.aload_n 0, 1) := by decide +kernel
theorem dX8_pull_44 : decode cX8_pull 44 = .ok (.getfield 77, 3) := by decide +kernel
theorem dX8_pull_47 : decode cX8_pull 47 = .ok (.ifCond .le 7, 3) := by decide +kernel
theorem dX8_pull_50 : decode cX8_pull 50 = .ok (.lconst 0, 1) := by decide +kernel
theorem dX8_pull_51 : decode cX8_pull 51 = .ok (.goto 17, 3) := by decide +kernel
theorem dX8_pull_54 : decode cX8_pull 54 = .ok (.aload_n 0, 1) := by decide +kernel
theorem dX8_pull_55 : decode cX8_pull 55 = .ok (.getfield 53, 3) := by decide +kernel
theorem dX8_pull_58 : decode cX8_pull 58 = .ok (.iload_n 1, 1) := by decide +kernel
theorem dX8_pull_59 : decode cX8_pull 59 = .ok (.laload, 1) := by decide +kernel
theorem dX8_pull_60 : decode cX8_pull 60 = .ok (.aload_n 0, 1) := by decide +kernel
theorem dX8_pull_61 : decode cX8_pull 61 = .ok (.getfield 189, 3) := by decide +kernel
theorem dX8_pull_64 : decode cX8_pull 64 = .ok (.iload_n 2, 1) := by decide +kernel
theorem dX8_pull_65 : decode cX8_pull 65 = .ok (.invokestatic 209, 3) := by decide +kernel
theorem dX8_pull_68 : decode cX8_pull 68 = .ok (.lreturn, 1) := by decide +kernel
set_option maxRecDepth 20000 in
theorem ggX8_spareAt_X8_isOn : GoodIn wsX8_spareAt wsX8_isOn := goodIn_r _ [6] (by decide +kernel) (by decide +kernel)
set_option maxRecDepth 20000 in
theorem gX8_spareAt_X8_isOn : GoodIn wsX8_spareAt (va_wsS RX8 113 yX8_isOn wsX8_isOn) := goodIn_app (goodIn_of _ (by decide +kernel)) ggX8_spareAt_X8_isOn
theorem dX8_spareAt_0 : decode cX8_spareAt 0 = .ok (.iconst 0, 1) := by decide +kernel
theorem dX8_spareAt_1 : decode cX8_spareAt 1 = .ok (.istore_n 2, 1) := by decide +kernel
theorem dX8_spareAt_2 : decode cX8_spareAt 2 = .ok (.iconst 0, 1) := by decide +kernel
theorem dX8_spareAt_3 : decode cX8_spareAt 3 = .ok (.istore_n 3, 1) := by decide +kernel
theorem dX8_spareAt_4 : decode cX8_spareAt 4 = .ok (.iload_n 3, 1) := by decide +kernel
theorem dX8_spareAt_5 : decode cX8_spareAt 5 = .ok (.aload_n 0, 1) := by decide +kernel
theorem dX8_spareAt_6 : decode cX8_spareAt 6 = .ok (.getfield 88, 3) := by decide +kernel
theorem dX8_spareAt_9 : decode cX8_spareAt 9 = .ok (.if_icmp .ge 30, 3) := by decide +kernel
theorem dX8_spareAt_12 : decode cX8_spareAt 12 = .ok (.aload_n 0, 1) := by decide +kernel
theorem dX8_spareAt_13 : decode cX8_spareAt 13 = .ok (.getfield 155, 3) := by decide +kernel
theorem dX8_spareAt_16 : decode cX8_spareAt 16 = .ok (.iload_n 3, 1) := by decide +kernel
theorem dX8_spareAt_17 : decode cX8_spareAt 17 = .ok (.invokestatic 113, 3) := by decide +kernel
theorem dX8_spareAt_20 : decode cX8_spareAt 20 = .ok (.ifCond .eq 13, 3) := by decide +kernel
theorem dX8_spareAt_23 : decode cX8_spareAt 23 = .ok (.iload_n 2, 1) := by decide +kernel
theorem dX8_spareAt_24 : decode cX8_spareAt 24 = .ok (.iload_n 1, 1) := by decide +kernel
theorem dX8_spareAt_25 : decode cX8_spareAt 25 = .ok (.if_icmp .ne 5, 3) := by decide +kernel
theorem dX8_spareAt_28 : decode cX8_spareAt 28 = .ok (.iload_n 3, 1) := by decide +kernel
theorem dX8_spareAt_29 : decode cX8_spareAt 29 = .ok (.ireturn, 1) := by decide +kernel
theorem dX8_spareAt_30 : decode cX8_spareAt 30 = .ok (.iinc 2 1, 3) := by decide +kernel
theorem dX8_spareAt_33 : decode cX8_spareAt 33 = .ok (.iinc 3 1, 3) := by decide +kernel
theorem dX8_spareAt_36 : decode cX8_spareAt 36 = .ok (.goto (-32), 3) := by decide +kernel
theorem dX8_spareAt_39 : decode cX8_spareAt 39 = .ok (.iconst (-1), 1) := by decide +kernel
theorem dX8_spareAt_40 : decode cX8_spareAt 40 = .ok (.ireturn, 1) := by decide +kernel
set_option maxRecDepth 20000 in
theorem ggX8_laysState_X8_setDeterminant : GoodIn wsX8_laysState wsX8_setDeterminant := goodIn_r _ [7, 8, 9, 10, 11, 12, 13, 14, 15, 6, 16, 17, 18, 19, 20, 21, 22, 23, 24, 25, 26, 27, 28, 29, 30, 31, 32, 33, 34, 35, 36, 37, 38, 39, 40, 41, 42, 43, 44, 45, 46, 47, 48, 49, 50, 51, 52, 53, 54, 55, 56, 57, 58, 59, 60, 61, 62, 63, 64, 65, 66, 67] (by decide +kernel) (by decide +kernel)
set_option maxRecDepth 20000 in
theorem gX8_laysState_X8_setDeterminant : GoodIn wsX8_laysState (wsV RX8 197 RX8 yX8_setDeterminant wsX8_setDeterminant) := goodIn_app (goodIn_of _ (by decide +kernel)) ggX8_laysState_X8_setDeterminant
set_option maxRecDepth 20000 in
theorem ggX8_laysState_X8_isOn : GoodIn wsX8_laysState wsX8_isOn := goodIn_r _ [16] (by decide +kernel) (by decide +kernel)
set_option maxRecDepth 20000 in
theorem gX8_laysState_X8_isOn : GoodIn wsX8_laysState (va_wsS RX8 113 yX8_isOn wsX8_isOn) := goodIn_app (goodIn_of _ (by decide +kernel)) ggX8_laysState_X8_isOn
theorem dX8_laysState_0 : decode cX8_laysState 0 = .ok (.aload_n 0, 1) := by decide +kernel
theorem dX8_laysState_1 : decode cX8_laysState 1 = .ok (.aload_n 0, 1) := by decide +kernel
theorem dX8_laysState_2 : decode cX8_laysState 2 = .ok (.aload_n 0, 1) := by decide +kernel
theorem dX8_laysState_3 : decode cX8_laysState 3 = .ok (.getfield 152, 3) := by decide +kernel
theorem dX8_laysState_6 : decode cX8_laysState 6 = .ok (.iconst (-1), 1) := by decide +kernel
theorem dX8_laysState_7 : decode cX8_laysState 7 = .ok (.invokevirtual 197, 3) := by decide +kernel
theorem dX8_laysState_10 : decode cX8_laysState 10 = .ok (.putfield 213, 3) := by decide +kernel
theorem dX8_laysState_13 : decode cX8_laysState 13 = .ok (.iconst 0, 1) := by decide +kernel
theorem dX8_laysState_14 : decode cX8_laysState 14 = .ok (.istore_n 2, 1) := by decide +kernel
theorem dX8_laysState_15 : decode cX8_laysState 15 = .ok (.iload_n 2, 1) := by decide +kernel
theorem dX8_laysState_16 : decode cX8_laysState 16 = .ok (.bipush 11, 2) := by decide +kernel
theorem dX8_laysState_18 : decode cX8_laysState 18 = .ok (.if_icmp .ge 36, 3) := by decide +kernel
theorem dX8_laysState_21 : decode cX8_laysState 21 = .ok (.aload_n 1, 1) := by decide +kernel
theorem dX8_laysState_22 : decode cX8_laysState 22 = .ok (.iload_n 2, 1) := by decide +kernel
theorem dX8_laysState_23 : decode cX8_laysState 23 = .ok (.aload_n 0, 1) := by decide +kernel
theorem dX8_laysState_24 : decode cX8_laysState 24 = .ok (.getfield 152, 3) := by decide +kernel
theorem dX8_laysState_27 : decode cX8_laysState 27 = .ok (.iload_n 2, 1) := by decide +kernel
theorem dX8_laysState_28 : decode cX8_laysState 28 = .ok (.invokestatic 113, 3) := by decide +kernel
theorem dX8_laysState_31 : decode cX8_laysState 31 = .ok (.ifCond .eq 15, 3) := by decide +kernel
theorem dX8_laysState_34 : decode cX8_laysState 34 = .ok (.aload_n 0, 1) := by decide +kernel
theorem dX8_laysState_35 : decode cX8_laysState 35 = .ok (.aload_n 0, 1) := by decide +kernel
theorem dX8_laysState_36 : decode cX8_laysState 36 = .ok (.getfield 152, 3) := by decide +kernel
theorem dX8_laysState_39 : decode cX8_laysState 39 = .ok (.iload_n 2, 1) := by decide +kernel
theorem dX8_laysState_40 : decode cX8_laysState 40 = .ok (.invokevirtual 197, 3) := by decide +kernel
theorem dX8_laysState_43 : decode cX8_laysState 43 = .ok (.goto 4, 3) := by decide +kernel
theorem dX8_laysState_46 : decode cX8_laysState 46 = .ok (.lconst 0, 1) := by decide +kernel
theorem dX8_laysState_47 : decode cX8_laysState 47 = .ok (.lastore, 1) := by decide +kernel
theorem dX8_laysState_48 : decode cX8_laysState 48 = .ok (.iinc 2 1, 3) := by decide +kernel
theorem dX8_laysState_51 : decode cX8_laysState 51 = .ok (.goto (-36), 3) := by decide +kernel
theorem dX8_laysState_54 : decode cX8_laysState 54 = .ok (.return_, 1) := by decide +kernel
set_option maxRecDepth 20000 in
theorem ggX8_laysBare_X8_takesLoads : GoodIn wsX8_laysBare wsX8_takesLoads := goodIn_r _ [6, 7, 8, 48, 49, 50, 51, 52, 53, 54, 55, 56, 57, 58, 59, 60, 61, 62, 63, 64, 65, 66, 67, 68, 69, 70, 71, 72, 73, 74, 75, 76, 77, 78, 79, 80, 81, 82] (by decide +kernel) (by decide +kernel)
set_option maxRecDepth 20000 in
theorem gX8_laysBare_X8_takesLoads : GoodIn wsX8_laysBare (wsV RX8 203 RX8 yX8_takesLoads wsX8_takesLoads) := goodIn_app (goodIn_of _ (by decide +kernel)) ggX8_laysBare_X8_takesLoads
set_option maxRecDepth 20000 in
theorem ggX8_laysBare_X8_laysColumn : GoodIn wsX8_laysBare wsX8_laysColumn := goodIn_r _ [12, 13, 14, 7, 15, 16, 48, 49, 50, 51, 52, 53, 54, 55, 56, 57, 58, 59, 60, 61, 62, 63, 64, 65, 66, 67, 68, 69, 70, 71, 72, 73, 74, 75, 76, 77, 78, 79, 80, 81, 82] (by decide +kernel) (by decide +kernel)
set_option maxRecDepth 20000 in
theorem gX8_laysBare_X8_laysColumn : GoodIn wsX8_laysBare (wsV RX8 186 RX8 yX8_laysColumn wsX8_laysColumn) := goodIn_app (goodIn_of _ (by decide +kernel)) ggX8_laysBare_X8_laysColumn
set_option maxRecDepth 20000 in
theorem ggX8_laysBare_X8_laysState : GoodIn wsX8_laysBare wsX8_laysState := goodIn_r _ [20, 21, 22, 23, 24, 25, 5, 26, 27, 13, 28, 14, 15, 16, 29, 30, 31, 32, 33, 34, 35, 36, 37, 38, 39, 40, 41, 42, 43, 44, 45, 46, 47, 48, 49, 50, 51, 52, 53, 54, 55, 56, 57, 58, 59, 60, 61, 62, 63, 64, 65, 66, 67, 68, 69, 70, 71, 72, 73, 74, 75, 76, 77, 78, 79, 80, 81, 82] (by decide +kernel) (by decide +kernel)
set_option maxRecDepth 20000 in
theorem gX8_laysBare_X8_laysState : GoodIn wsX8_laysBare (wsV RX8 216 RX8 yX8_laysState wsX8_laysState) := goodIn_app (goodIn_of _ (by decide +kernel)) ggX8_laysBare_X8_laysState
theorem dX8_laysBare_0 : decode cX8_laysBare 0 = .ok (.aload_n 0, 1) := by decide +kernel
theorem dX8_laysBare_1 : decode cX8_laysBare 1 = .ok (.invokevirtual 203, 3) := by decide +kernel
theorem dX8_laysBare_4 : decode cX8_laysBare 4 = .ok (.aload_n 0, 1) := by decide +kernel
theorem dX8_laysBare_5 : decode cX8_laysBare 5 = .ok (.invokevirtual 186, 3) := by decide +kernel
theorem dX8_laysBare_8 : decode cX8_laysBare 8 = .ok (.aload_n 0, 1) := by decide +kernel
theorem dX8_laysBare_9 : decode cX8_laysBare 9 = .ok (.aload_n 0, 1) := by decide +kernel
theorem dX8_laysBare_10 : decode cX8_laysBare 10 = .ok (.getfield 59, 3) := by decide +kernel
theorem dX8_laysBare_13 : decode cX8_laysBare 13 = .ok (.invokevirtual 216, 3) := by decide +kernel
theorem dX8_laysBare_16 : decode cX8_laysBare 16 = .ok (.return_, 1) := by decide +kernel
set_option maxRecDepth 20000 in
theorem ggX8_laysUnit_X8_brings : GoodIn wsX8_laysUnit wsX8_brings := goodIn_r _ [10, 11, 12, 13, 14, 37, 38, 39, 40, 41, 42, 43, 44, 45, 46, 47, 48, 49, 50, 51, 52, 53, 54, 55, 56, 57, 58, 59, 60, 61, 62, 63, 64, 65, 66, 67, 68, 69, 70, 71] (by decide +kernel) (by decide +kernel)
set_option maxRecDepth 20000 in
theorem gX8_laysUnit_X8_brings : GoodIn wsX8_laysUnit (wsV RX8 158 RX8 yX8_brings wsX8_brings) := goodIn_app (goodIn_of _ (by decide +kernel)) ggX8_laysUnit_X8_brings
set_option maxRecDepth 20000 in
theorem ggX8_laysUnit_X8_laysState : GoodIn wsX8_laysUnit wsX8_laysState := goodIn_r _ [18, 19, 5, 20, 21, 22, 9, 23, 24, 1, 25, 2, 3, 4, 26, 27, 28, 6, 7, 8, 10, 11, 12, 13, 14, 29, 30, 31, 32, 33, 34, 35, 36, 37, 38, 39, 40, 41, 42, 43, 44, 45, 46, 47, 48, 49, 50, 51, 52, 53, 54, 55, 56, 57, 58, 59, 60, 61, 62, 63, 64, 65, 66, 67, 68, 69, 70, 71] (by decide +kernel) (by decide +kernel)
set_option maxRecDepth 20000 in
theorem gX8_laysUnit_X8_laysState : GoodIn wsX8_laysUnit (wsV RX8 216 RX8 yX8_laysState wsX8_laysState) := goodIn_app (goodIn_of _ (by decide +kernel)) ggX8_laysUnit_X8_laysState
theorem dX8_laysUnit_0 : decode cX8_laysUnit 0 = .ok (.iconst 0, 1) := by decide +kernel
theorem dX8_laysUnit_1 : decode cX8_laysUnit 1 = .ok (.istore_n 3, 1) := by decide +kernel
theorem dX8_laysUnit_2 : decode cX8_laysUnit 2 = .ok (.iload_n 3, 1) := by decide +kernel
theorem dX8_laysUnit_3 : decode cX8_laysUnit 3 = .ok (.aload_n 0, 1) := by decide +kernel
theorem dX8_laysUnit_4 : decode cX8_laysUnit 4 = .ok (.getfield 130, 3) := by decide +kernel
theorem dX8_laysUnit_7 : decode cX8_laysUnit 7 = .ok (.if_icmp .ge 33, 3) := by decide +kernel
theorem dX8_laysUnit_10 : decode cX8_laysUnit 10 = .ok (.aload_n 0, 1) := by decide +kernel
theorem dX8_laysUnit_11 : decode cX8_laysUnit 11 = .ok (.getfield 50, 3) := by decide +kernel
theorem dX8_laysUnit_14 : decode cX8_laysUnit 14 = .ok (.iload_n 3, 1) := by decide +kernel
theorem dX8_laysUnit_15 : decode cX8_laysUnit 15 = .ok (.aload_n 0, 1) := by decide +kernel
theorem dX8_laysUnit_16 : decode cX8_laysUnit 16 = .ok (.iload_n 1, 1) := by decide +kernel
theorem dX8_laysUnit_17 : decode cX8_laysUnit 17 = .ok (.aload_n 0, 1) := by decide +kernel
theorem dX8_laysUnit_18 : decode cX8_laysUnit 18 = .ok (.getfield 40, 3) := by decide +kernel
theorem dX8_laysUnit_21 : decode cX8_laysUnit 21 = .ok (.iload_n 3, 1) := by decide +kernel
theorem dX8_laysUnit_22 : decode cX8_laysUnit 22 = .ok (.iaload, 1) := by decide +kernel
theorem dX8_laysUnit_23 : decode cX8_laysUnit 23 = .ok (.aload_n 0, 1) := by decide +kernel
theorem dX8_laysUnit_24 : decode cX8_laysUnit 24 = .ok (.getfield 43, 3) := by decide +kernel
theorem dX8_laysUnit_27 : decode cX8_laysUnit 27 = .ok (.iload_n 3, 1) := by decide +kernel
theorem dX8_laysUnit_28 : decode cX8_laysUnit 28 = .ok (.iaload, 1) := by decide +kernel
theorem dX8_laysUnit_29 : decode cX8_laysUnit 29 = .ok (.invokevirtual 158, 3) := by decide +kernel
theorem dX8_laysUnit_32 : decode cX8_laysUnit 32 = .ok (.ineg, 1) := by decide +kernel
theorem dX8_laysUnit_33 : decode cX8_laysUnit 33 = .ok (.iastore, 1) := by decide +kernel
theorem dX8_laysUnit_34 : decode cX8_laysUnit 34 = .ok (.iinc 3 1, 3) := by decide +kernel
theorem dX8_laysUnit_37 : decode cX8_laysUnit 37 = .ok (.goto (-35), 3) := by decide +kernel
theorem dX8_laysUnit_40 : decode cX8_laysUnit 40 = .ok (.aload_n 0, 1) := by decide +kernel
theorem dX8_laysUnit_41 : decode cX8_laysUnit 41 = .ok (.aload_n 2, 1) := by decide +kernel
theorem dX8_laysUnit_42 : decode cX8_laysUnit 42 = .ok (.invokevirtual 216, 3) := by decide +kernel
theorem dX8_laysUnit_45 : decode cX8_laysUnit 45 = .ok (.aload_n 2, 1) := by decide +kernel
theorem dX8_laysUnit_46 : decode cX8_laysUnit 46 = .ok (.iload_n 1, 1) := by decide +kernel
theorem dX8_laysUnit_47 : decode cX8_laysUnit 47 = .ok (.aload_n 0, 1) := by decide +kernel
theorem dX8_laysUnit_48 : decode cX8_laysUnit 48 = .ok (.getfield 213, 3) := by decide +kernel
theorem dX8_laysUnit_51 : decode cX8_laysUnit 51 = .ok (.lastore, 1) := by decide +kernel
theorem dX8_laysUnit_52 : decode cX8_laysUnit 52 = .ok (.return_, 1) := by decide +kernel
set_option maxRecDepth 20000 in
theorem ggX8_state_X8_isBar : GoodIn wsX8_state wsX8_isBar := goodIn_r _ [10, 11, 12, 13, 9, 14, 113, 114, 115, 116, 117, 118, 119, 120, 121, 122, 123, 124, 125, 126, 127, 128, 129, 130, 131, 132, 133, 134, 135, 136, 137, 138, 139, 140, 141, 142, 143, 144, 145, 146, 147] (by decide +kernel) (by decide +kernel)
set_option maxRecDepth 20000 in
theorem gX8_state_X8_isBar : GoodIn wsX8_state (wsV RX8 110 RX8 yX8_isBar wsX8_isBar) := goodIn_app (goodIn_of _ (by decide +kernel)) ggX8_state_X8_isBar
set_option maxRecDepth 20000 in
theorem ggX8_state_X8_isOn : GoodIn wsX8_state wsX8_isOn := goodIn_r _ [17] (by decide +kernel) (by decide +kernel)
set_option maxRecDepth 20000 in
theorem gX8_state_X8_isOn : GoodIn wsX8_state (va_wsS RX8 113 yX8_isOn wsX8_isOn) := goodIn_app (goodIn_of _ (by decide +kernel)) ggX8_state_X8_isOn
set_option maxRecDepth 20000 in
theorem ggX8_state_X8_kindOf : GoodIn wsX8_state wsX8_kindOf := goodIn_r _ [21, 22, 23, 24, 9, 25, 26, 27, 11, 28, 29, 30, 31, 32, 33, 34, 35, 36, 37, 15, 16, 17, 38, 39, 40, 41, 42, 43, 44, 45, 46, 47, 48, 49, 50, 51, 52, 53, 54, 55, 56, 57, 58, 59, 60, 61, 62, 63, 64, 65, 66, 113, 114, 115, 116, 117, 118, 119, 120, 121, 122, 123, 124, 125, 126, 127, 128, 129, 130, 131, 132, 133, 134, 135, 136, 137, 138, 139, 140, 141, 142, 143, 144, 145, 146, 147] (by decide +kernel) (by decide +kernel)
set_option maxRecDepth 20000 in
theorem gX8_state_X8_kindOf : GoodIn wsX8_state (wsV RX8 180 RX8 yX8_kindOf wsX8_kindOf) := goodIn_app (goodIn_of _ (by decide +kernel)) ggX8_state_X8_kindOf
set_option maxRecDepth 20000 in
theorem ggX8_state_X8_isFirm : GoodIn wsX8_state wsX8_isFirm := goodIn_r _ [69] (by decide +kernel) (by decide +kernel)
set_option maxRecDepth 20000 in
theorem gX8_state_X8_isFirm : GoodIn wsX8_state (va_wsS RX8 183 yX8_isFirm wsX8_isFirm) := goodIn_app (goodIn_of _ (by decide +kernel)) ggX8_state_X8_isFirm
set_option maxRecDepth 20000 in
theorem ggX8_state_X8_spareAt : GoodIn wsX8_state wsX8_spareAt := goodIn_r _ [73, 11, 27, 15, 16, 9, 17, 113, 114, 115, 116, 117, 118, 119, 120, 121, 122, 123, 124, 125, 126, 127, 128, 129, 130, 131, 132, 133, 134, 135, 136, 137, 138, 139, 140, 141, 142, 143, 144, 145, 146, 147] (by decide +kernel) (by decide +kernel)
set_option maxRecDepth 20000 in
theorem gX8_state_X8_spareAt : GoodIn wsX8_state (wsV RX8 220 RX8 yX8_spareAt wsX8_spareAt) := goodIn_app (goodIn_of _ (by decide +kernel)) ggX8_state_X8_spareAt
set_option maxRecDepth 20000 in
theorem ggX8_state_X8_laysBare : GoodIn wsX8_state wsX8_laysBare := goodIn_r _ [77, 3, 78, 79, 80, 9, 81, 82, 83, 84, 85, 86, 87, 28, 88, 30, 31, 89, 90, 91, 92, 26, 4, 93, 94, 95, 96, 11, 29, 15, 16, 17, 38, 39, 40, 41, 42, 43, 44, 45, 97, 98, 99, 100, 101, 102, 103, 104, 113, 114, 115, 116, 117, 118, 119, 120, 121, 122, 123, 124, 125, 126, 127, 128, 129, 130, 131, 132, 133, 134, 135, 136, 137, 138, 139, 140, 141, 142, 143, 144, 145, 146, 147] (by decide +kernel) (by decide +kernel)
set_option maxRecDepth 20000 in
theorem gX8_state_X8_laysBare : GoodIn wsX8_state (wsV RX8 223 RX8 yX8_laysBare wsX8_laysBare) := goodIn_app (goodIn_of _ (by decide +kernel)) ggX8_state_X8_laysBare
set_option maxRecDepth 20000 in
theorem ggX8_state_X8_told : GoodIn wsX8_state wsX8_told := goodIn_r _ [107, 108, 54, 55, 9, 56, 57, 58, 59] (by decide +kernel) (by decide +kernel)
set_option maxRecDepth 20000 in
theorem gX8_state_X8_told : GoodIn wsX8_state (va_wsS RX8 209 yX8_told wsX8_told) := goodIn_app (goodIn_of _ (by decide +kernel)) ggX8_state_X8_told
set_option maxRecDepth 20000 in
theorem ggX8_state_X8_laysUnit : GoodIn wsX8_state wsX8_laysUnit := goodIn_r _ [112, 28, 88, 30, 31, 4, 38, 39, 40, 9, 41, 42, 43, 44, 45, 89, 90, 91, 92, 26, 93, 94, 95, 96, 11, 29, 15, 16, 17, 97, 98, 99, 100, 101, 102, 103, 104, 113, 114, 115, 116, 117, 118, 119, 120, 121, 122, 123, 124, 125, 126, 127, 128, 129, 130, 131, 132, 133, 134, 135, 136, 137, 138, 139, 140, 141, 142, 143, 144, 145, 146, 147] (by decide +kernel) (by decide +kernel)
set_option maxRecDepth 20000 in
theorem gX8_state_X8_laysUnit : GoodIn wsX8_state (wsV RX8 226 RX8 yX8_laysUnit wsX8_laysUnit) := goodIn_app (goodIn_of _ (by decide +kernel)) ggX8_state_X8_laysUnit
theorem dX8_state_0 : decode cX8_state 0 = .ok (.aload_n 0, 1) := by decide +kernel
theorem dX8_state_1 : decode cX8_state 1 = .ok (.iload_n 2, 1) := by decide +kernel
theorem dX8_state_2 : decode cX8_state 2 = .ok (.invokevirtual 110, 3) := by decide +kernel
theorem dX8_state_5 : decode cX8_state 5 = .ok (.ifCond .eq 32, 3) := by decide +kernel
theorem dX8_state_8 : decode cX8_state 8 = .ok (.aload_n 0, 1) := by decide +kernel
theorem dX8_state_9 : decode cX8_state 9 = .ok (.getfield 107, 3) := by decide +kernel
theorem dX8_state_12 : decode cX8_state 12 = .ok (.iload_n 2, 1) := by decide +kernel
theorem dX8_state_13 : decode cX8_state 13 = .ok (.invokestatic 113, 3) := by decide +kernel
theorem dX8_state_16 : decode cX8_state 16 = .ok (.ifCond .eq 21, 3) := by decide +kernel
theorem dX8_state_19 : decode cX8_state 19 = .ok (.aload_n 0, 1) := by decide +kernel
theorem dX8_state_20 : decode cX8_state 20 = .ok (.aload_n 0, 1) := by decide +kernel
theorem dX8_state_21 : decode cX8_state 21 = .ok (.getfield 107, 3) := by decide +kernel
theorem dX8_state_24 : decode cX8_state 24 = .ok (.invokevirtual 180, 3) := by decide +kernel
theorem dX8_state_27 : decode cX8_state 27 = .ok (.invokestatic 183, 3) := by decide +kernel
theorem dX8_state_30 : decode cX8_state 30 = .ok (.ifCond .eq 7, 3) := by decide +kernel
theorem dX8_state_33 : decode cX8_state 33 = .ok (.iconst 1, 1) := by decide +kernel
theorem dX8_state_34 : decode cX8_state 34 = .ok (.goto 4, 3) := by decide +kernel
theorem dX8_state_37 : decode cX8_state 37 = .ok (.iconst 0, 1) := by decide +kernel
theorem dX8_state_38 : decode cX8_state 38 = .ok (.istore 4, 2) := by decide +kernel
theorem dX8_state_40 : decode cX8_state 40 = .ok (.iload 4, 2) := by decide +kernel
theorem dX8_state_42 : decode cX8_state 42 = .ok (.ifCond .eq 15, 3) := by decide +kernel
theorem dX8_state_45 : decode cX8_state 45 = .ok (.iload_n 1, 1) := by decide +kernel
theorem dX8_state_46 : decode cX8_state 46 = .ok (.ifCond .lt 11, 3) := by decide +kernel
theorem dX8_state_49 : decode cX8_state 49 = .ok (.aload_n 0, 1) := by decide +kernel
theorem dX8_state_50 : decode cX8_state 50 = .ok (.iload_n 1, 1) := by decide +kernel
theorem dX8_state_51 : decode cX8_state 51 = .ok (.invokevirtual 220, 3) := by decide +kernel
theorem dX8_state_54 : decode cX8_state 54 = .ok (.goto 4, 3) := by decide +kernel
theorem dX8_state_57 : decode cX8_state 57 = .ok (.iconst (-1), 1) := by decide +kernel
theorem dX8_state_58 : decode cX8_state 58 = .ok (.istore 5, 2) := by decide +kernel
theorem dX8_state_60 : decode cX8_state 60 = .ok (.aload_n 0, 1) := by decide +kernel
theorem dX8_state_61 : decode cX8_state 61 = .ok (.iload 4, 2) := by decide +kernel
theorem dX8_state_63 : decode cX8_state 63 = .ok (.ifCond .eq 18, 3) := by decide +kernel
theorem dX8_state_66 : decode cX8_state 66 = .ok (.iload_n 1, 1) := by decide +kernel
theorem dX8_state_67 : decode cX8_state 67 = .ok (.iconst (-1), 1) := by decide +kernel
theorem dX8_state_68 : decode cX8_state 68 = .ok (.if_icmp .eq 9, 3) := by decide +kernel
theorem dX8_state_71 : decode cX8_state 71 = .ok (.iload 5, 2) := by decide +kernel
theorem dX8_state_73 : decode cX8_state 73 = .ok (.iconst (-1), 1) := by decide +kernel
theorem dX8_state_74 : decode cX8_state 74 = .ok (.if_icmp .eq 7, 3) := by decide +kernel
theorem dX8_state_77 : decode cX8_state 77 = .ok (.iconst 0, 1) := by decide +kernel
theorem dX8_state_78 : decode cX8_state 78 = .ok (.goto 4, 3) := by decide +kernel
theorem dX8_state_81 : decode cX8_state 81 = .ok (.iconst 1, 1) := by decide +kernel
theorem dX8_state_82 : decode cX8_state 82 = .ok (.putfield 77, 3) := by decide +kernel
theorem dX8_state_85 : decode cX8_state 85 = .ok (.aload_n 0, 1) := by decide +kernel
theorem dX8_state_86 : decode cX8_state 86 = .ok (.getfield 77, 3) := by decide +kernel
theorem dX8_state_89 : decode cX8_state 89 = .ok (.ifCond .le 5, 3) := by decide +kernel
theorem dX8_state_92 : decode cX8_state 92 = .ok (.lconst 0, 1) := by decide +kernel
theorem dX8_state_93 : decode cX8_state 93 = .ok (.lreturn, 1) := by decide +kernel
theorem dX8_state_94 : decode cX8_state 94 = .ok (.iload_n 1, 1) := by decide +kernel
theorem dX8_state_95 : decode cX8_state 95 = .ok (.iconst (-1), 1) := by decide +kernel
theorem dX8_state_96 : decode cX8_state 96 = .ok (.if_icmp .ne 22, 3) := by decide +kernel
theorem dX8_state_99 : decode cX8_state 99 = .ok (.aload_n 0, 1) := by decide +kernel
theorem dX8_state_100 : decode cX8_state 100 = .ok (.invokevirtual 223, 3) := by decide +kernel
theorem dX8_state_103 : decode cX8_state 103 = .ok (.aload_n 0, 1) := by decide +kernel
theorem dX8_state_104 : decode cX8_state 104 = .ok (.getfield 59, 3) := by decide +kernel
theorem dX8_state_107 : decode cX8_state 107 = .ok (.iload_n 2, 1) := by decide +kernel
theorem dX8_state_108 : decode cX8_state 108 = .ok (.laload, 1) := by decide +kernel
theorem dX8_state_109 : decode cX8_state 109 = .ok (.aload_n 0, 1) := by decide +kernel
theorem dX8_state_110 : decode cX8_state 110 = .ok (.getfield 213, 3) := by decide +kernel
theorem dX8_state_113 : decode cX8_state 113 = .ok (.iload_n 3, 1) := by decide +kernel
theorem dX8_state_114 : decode cX8_state 114 = .ok (.invokestatic 209, 3) := by decide +kernel
theorem dX8_state_117 : decode cX8_state 117 = .ok (.lreturn, 1) := by decide +kernel
theorem dX8_state_118 : decode cX8_state 118 = .ok (.aload_n 0, 1) := by decide +kernel
theorem dX8_state_119 : decode cX8_state 119 = .ok (.iload 5, 2) := by decide +kernel
theorem dX8_state_121 : decode cX8_state 121 = .ok (.aload_n 0, 1) := by decide +kernel
theorem dX8_state_122 : decode cX8_state 122 = .ok (.getfield 62, 3) := by decide +kernel
theorem dX8_state_125 : decode cX8_state 125 = .ok (.invokevirtual 226, 3) := by decide +kernel
theorem dX8_state_128 : decode cX8_state 128 = .ok (.aload_n 0, 1) := by decide +kernel
theorem dX8_state_129 : decode cX8_state 129 = .ok (.getfield 62, 3) := by decide +kernel
theorem dX8_state_132 : decode cX8_state 132 = .ok (.iload_n 2, 1) := by decide +kernel
theorem dX8_state_133 : decode cX8_state 133 = .ok (.laload, 1) := by decide +kernel
theorem dX8_state_134 : decode cX8_state 134 = .ok (.aload_n 0, 1) := by decide +kernel
theorem dX8_state_135 : decode cX8_state 135 = .ok (.getfield 213, 3) := by decide +kernel
theorem dX8_state_138 : decode cX8_state 138 = .ok (.iload_n 3, 1) := by decide +kernel
theorem dX8_state_139 : decode cX8_state 139 = .ok (.invokestatic 209, 3) := by decide +kernel
theorem dX8_state_142 : decode cX8_state 142 = .ok (.lreturn, 1) := by decide +kernel
set_option maxRecDepth 20000 in
theorem ggX8_flex_X8_kindOf : GoodIn wsX8_flex wsX8_kindOf := goodIn_r _ [13, 14, 15, 16, 12, 17, 18, 19, 5, 20, 21, 22, 23, 24, 25, 26, 27, 28, 29, 30, 31, 32, 33, 34, 35, 36, 37, 38, 39, 40, 41, 42, 43, 44, 45, 46, 47, 48, 49, 50, 51, 52, 53, 54, 55, 56, 57, 58, 59, 60, 61, 108, 109, 110, 111, 112, 113, 114, 115, 116, 117, 118, 119, 120, 121, 122, 123, 124, 125, 126, 127, 128, 129, 130, 131, 132, 133, 134, 135, 136, 137, 138, 139, 140, 141, 142] (by decide +kernel) (by decide +kernel)
set_option maxRecDepth 20000 in
theorem gX8_flex_X8_kindOf : GoodIn wsX8_flex (wsV RX8 180 RX8 yX8_kindOf wsX8_kindOf) := goodIn_app (goodIn_of _ (by decide +kernel)) ggX8_flex_X8_kindOf
set_option maxRecDepth 20000 in
theorem ggX8_flex_X8_isFirm : GoodIn wsX8_flex wsX8_isFirm := goodIn_r _ [64] (by decide +kernel) (by decide +kernel)
set_option maxRecDepth 20000 in
theorem gX8_flex_X8_isFirm : GoodIn wsX8_flex (va_wsS RX8 183 yX8_isFirm wsX8_isFirm) := goodIn_app (goodIn_of _ (by decide +kernel)) ggX8_flex_X8_isFirm
set_option maxRecDepth 20000 in
theorem ggX8_flex_X8_spareAt : GoodIn wsX8_flex wsX8_spareAt := goodIn_r _ [68, 5, 19, 30, 31, 12, 32, 108, 109, 110, 111, 112, 113, 114, 115, 116, 117, 118, 119, 120, 121, 122, 123, 124, 125, 126, 127, 128, 129, 130, 131, 132, 133, 134, 135, 136, 137, 138, 139, 140, 141, 142] (by decide +kernel) (by decide +kernel)
set_option maxRecDepth 20000 in
theorem gX8_flex_X8_spareAt : GoodIn wsX8_flex (wsV RX8 220 RX8 yX8_spareAt wsX8_spareAt) := goodIn_app (goodIn_of _ (by decide +kernel)) ggX8_flex_X8_spareAt
set_option maxRecDepth 20000 in
theorem ggX8_flex_X8_laysUnit : GoodIn wsX8_flex wsX8_laysUnit := goodIn_r _ [72, 20, 73, 22, 23, 8, 33, 34, 35, 12, 36, 37, 38, 39, 40, 74, 75, 76, 77, 18, 78, 79, 80, 81, 5, 21, 30, 31, 32, 82, 83, 84, 85, 86, 87, 88, 89, 108, 109, 110, 111, 112, 113, 114, 115, 116, 117, 118, 119, 120, 121, 122, 123, 124, 125, 126, 127, 128, 129, 130, 131, 132, 133, 134, 135, 136, 137, 138, 139, 140, 141, 142] (by decide +kernel) (by decide +kernel)
set_option maxRecDepth 20000 in
theorem gX8_flex_X8_laysUnit : GoodIn wsX8_flex (wsV RX8 226 RX8 yX8_laysUnit wsX8_laysUnit) := goodIn_app (goodIn_of _ (by decide +kernel)) ggX8_flex_X8_laysUnit
set_option maxRecDepth 20000 in
theorem ggX8_flex_X8_laysBare : GoodIn wsX8_flex wsX8_laysBare := goodIn_r _ [93, 7, 94, 95, 96, 12, 97, 98, 99, 100, 101, 102, 103, 20, 73, 22, 23, 74, 75, 76, 77, 18, 8, 78, 79, 80, 81, 5, 21, 30, 31, 32, 33, 34, 35, 36, 37, 38, 39, 40, 82, 83, 84, 85, 86, 87, 88, 89, 108, 109, 110, 111, 112, 113, 114, 115, 116, 117, 118, 119, 120, 121, 122, 123, 124, 125, 126, 127, 128, 129, 130, 131, 132, 133, 134, 135, 136, 137, 138, 139, 140, 141, 142] (by decide +kernel) (by decide +kernel)
set_option maxRecDepth 20000 in
theorem gX8_flex_X8_laysBare : GoodIn wsX8_flex (wsV RX8 223 RX8 yX8_laysBare wsX8_laysBare) := goodIn_app (goodIn_of _ (by decide +kernel)) ggX8_flex_X8_laysBare
set_option maxRecDepth 20000 in
theorem ggX8_flex_X8_told : GoodIn wsX8_flex wsX8_told := goodIn_r _ [106, 107, 49, 50, 12, 51, 52, 53, 54] (by decide +kernel) (by decide +kernel)
set_option maxRecDepth 20000 in
theorem gX8_flex_X8_told : GoodIn wsX8_flex (va_wsS RX8 209 yX8_told wsX8_told) := goodIn_app (goodIn_of _ (by decide +kernel)) ggX8_flex_X8_told
theorem dX8_flex_0 : decode cX8_flex 0 = .ok (.aload_n 0, 1) := by decide +kernel
theorem dX8_flex_1 : decode cX8_flex 1 = .ok (.aload_n 0, 1) := by decide +kernel
theorem dX8_flex_2 : decode cX8_flex 2 = .ok (.getfield 107, 3) := by decide +kernel
theorem dX8_flex_5 : decode cX8_flex 5 = .ok (.invokevirtual 180, 3) := by decide +kernel
theorem dX8_flex_8 : decode cX8_flex 8 = .ok (.invokestatic 183, 3) := by decide +kernel
theorem dX8_flex_11 : decode cX8_flex 11 = .ok (.istore 4, 2) := by decide +kernel
theorem dX8_flex_13 : decode cX8_flex 13 = .ok (.iload 4, 2) := by decide +kernel
theorem dX8_flex_15 : decode cX8_flex 15 = .ok (.ifCond .eq 15, 3) := by decide +kernel
theorem dX8_flex_18 : decode cX8_flex 18 = .ok (.iload_n 1, 1) := by decide +kernel
theorem dX8_flex_19 : decode cX8_flex 19 = .ok (.ifCond .lt 11, 3) := by decide +kernel
theorem dX8_flex_22 : decode cX8_flex 22 = .ok (.aload_n 0, 1) := by decide +kernel
theorem dX8_flex_23 : decode cX8_flex 23 = .ok (.iload_n 1, 1) := by decide +kernel
theorem dX8_flex_24 : decode cX8_flex 24 = .ok (.invokevirtual 220, 3) := by decide +kernel
theorem dX8_flex_27 : decode cX8_flex 27 = .ok (.goto 4, 3) := by decide +kernel
theorem dX8_flex_30 : decode cX8_flex 30 = .ok (.iconst (-1), 1) := by decide +kernel
theorem dX8_flex_31 : decode cX8_flex 31 = .ok (.istore 5, 2) := by decide +kernel
theorem dX8_flex_33 : decode cX8_flex 33 = .ok (.iload 4, 2) := by decide +kernel
theorem dX8_flex_35 : decode cX8_flex 35 = .ok (.ifCond .eq 15, 3) := by decide +kernel
theorem dX8_flex_38 : decode cX8_flex 38 = .ok (.iload_n 2, 1) := by decide +kernel
theorem dX8_flex_39 : decode cX8_flex 39 = .ok (.ifCond .lt 11, 3) := by decide +kernel
theorem dX8_flex_42 : decode cX8_flex 42 = .ok (.aload_n 0, 1) := by decide +kernel
theorem dX8_flex_43 : decode cX8_flex 43 = .ok (.iload_n 2, 1) := by decide +kernel
theorem dX8_flex_44 : decode cX8_flex 44 = .ok (.invokevirtual 220, 3) := by decide +kernel
theorem dX8_flex_47 : decode cX8_flex 47 = .ok (.goto 4, 3) := by decide +kernel
theorem dX8_flex_50 : decode cX8_flex 50 = .ok (.iconst (-1), 1) := by decide +kernel
theorem dX8_flex_51 : decode cX8_flex 51 = .ok (.istore 6, 2) := by decide +kernel
theorem dX8_flex_53 : decode cX8_flex 53 = .ok (.aload_n 0, 1) := by decide +kernel
theorem dX8_flex_54 : decode cX8_flex 54 = .ok (.iload 5, 2) := by decide +kernel
theorem dX8_flex_56 : decode cX8_flex 56 = .ok (.iconst (-1), 1) := by decide +kernel
theorem dX8_flex_57 : decode cX8_flex 57 = .ok (.if_icmp .eq 18, 3) := by decide +kernel
theorem dX8_flex_60 : decode cX8_flex 60 = .ok (.iload_n 2, 1) := by decide +kernel
theorem dX8_flex_61 : decode cX8_flex 61 = .ok (.iconst (-1), 1) := by decide +kernel
theorem dX8_flex_62 : decode cX8_flex 62 = .ok (.if_icmp .eq 9, 3) := by decide +kernel
theorem dX8_flex_65 : decode cX8_flex 65 = .ok (.iload 6, 2) := by decide +kernel
theorem dX8_flex_67 : decode cX8_flex 67 = .ok (.iconst (-1), 1) := by decide +kernel
theorem dX8_flex_68 : decode cX8_flex 68 = .ok (.if_icmp .eq 7, 3) := by decide +kernel
theorem dX8_flex_71 : decode cX8_flex 71 = .ok (.iconst 0, 1) := by decide +kernel
theorem dX8_flex_72 : decode cX8_flex 72 = .ok (.goto 4, 3) := by decide +kernel
theorem dX8_flex_75 : decode cX8_flex 75 = .ok (.iconst 1, 1) := by decide +kernel
theorem dX8_flex_76 : decode cX8_flex 76 = .ok (.putfield 77, 3) := by decide +kernel
theorem dX8_flex_79 : decode cX8_flex 79 = .ok (.aload_n 0, 1) := by decide +kernel
theorem dX8_flex_80 : decode cX8_flex 80 = .ok (.getfield 77, 3) := by decide +kernel
theorem dX8_flex_83 : decode cX8_flex 83 = .ok (.ifCond .le 5, 3) := by decide +kernel
theorem dX8_flex_86 : decode cX8_flex 86 = .ok (.lconst 0, 1) := by decide +kernel
theorem dX8_flex_87 : decode cX8_flex 87 = .ok (.lreturn, 1) := by decide +kernel
theorem dX8_flex_88 : decode cX8_flex 88 = .ok (.aload_n 0, 1) := by decide +kernel
theorem dX8_flex_89 : decode cX8_flex 89 = .ok (.iload 5, 2) := by decide +kernel
theorem dX8_flex_91 : decode cX8_flex 91 = .ok (.aload_n 0, 1) := by decide +kernel
theorem dX8_flex_92 : decode cX8_flex 92 = .ok (.getfield 62, 3) := by decide +kernel
theorem dX8_flex_95 : decode cX8_flex 95 = .ok (.invokevirtual 226, 3) := by decide +kernel
theorem dX8_flex_98 : decode cX8_flex 98 = .ok (.iload_n 2, 1) := by decide +kernel
theorem dX8_flex_99 : decode cX8_flex 99 = .ok (.iconst (-1), 1) := by decide +kernel
theorem dX8_flex_100 : decode cX8_flex 100 = .ok (.if_icmp .ne 10, 3) := by decide +kernel
theorem dX8_flex_103 : decode cX8_flex 103 = .ok (.aload_n 0, 1) := by decide +kernel
theorem dX8_flex_104 : decode cX8_flex 104 = .ok (.invokevirtual 223, 3) := by decide +kernel
theorem dX8_flex_107 : decode cX8_flex 107 = .ok (.goto 13, 3) := by decide +kernel
theorem dX8_flex_110 : decode cX8_flex 110 = .ok (.aload_n 0, 1) := by decide +kernel
theorem dX8_flex_111 : decode cX8_flex 111 = .ok (.iload 6, 2) := by decide +kernel
theorem dX8_flex_113 : decode cX8_flex 113 = .ok (.aload_n 0, 1) := by decide +kernel
theorem dX8_flex_114 : decode cX8_flex 114 = .ok (.getfield 65, 3) := by decide +kernel
theorem dX8_flex_117 : decode cX8_flex 117 = .ok (.invokevirtual 226, 3) := by decide +kernel
theorem dX8_flex_120 : decode cX8_flex 120 = .ok (.lconst 0, 1) := by decide +kernel
theorem dX8_flex_121 : decode cX8_flex 121 = .ok (.lstore 7, 2) := by decide +kernel
theorem dX8_flex_123 : decode cX8_flex 123 = .ok (.iconst 0, 1) := by decide +kernel
theorem dX8_flex_124 : decode cX8_flex 124 = .ok (.istore 9, 2) := by decide +kernel
theorem dX8_flex_126 : decode cX8_flex 126 = .ok (.iload 9, 2) := by decide +kernel
theorem dX8_flex_128 : decode cX8_flex 128 = .ok (.aload_n 0, 1) := by decide +kernel
theorem dX8_flex_129 : decode cX8_flex 129 = .ok (.getfield 88, 3) := by decide +kernel
theorem dX8_flex_132 : decode cX8_flex 132 = .ok (.if_icmp .ge 53, 3) := by decide +kernel
theorem dX8_flex_135 : decode cX8_flex 135 = .ok (.lload 7, 2) := by decide +kernel
theorem dX8_flex_137 : decode cX8_flex 137 = .ok (.aload_n 0, 1) := by decide +kernel
theorem dX8_flex_138 : decode cX8_flex 138 = .ok (.getfield 28, 3) := by decide +kernel
theorem dX8_flex_141 : decode cX8_flex 141 = .ok (.iload 9, 2) := by decide +kernel
theorem dX8_flex_143 : decode cX8_flex 143 = .ok (.iaload, 1) := by decide +kernel
theorem dX8_flex_144 : decode cX8_flex 144 = .ok (.i2l, 1) := by decide +kernel
theorem dX8_flex_145 : decode cX8_flex 145 = .ok (.aload_n 0, 1) := by decide +kernel
theorem dX8_flex_146 : decode cX8_flex 146 = .ok (.getfield 62, 3) := by decide +kernel
theorem dX8_flex_149 : decode cX8_flex 149 = .ok (.iload 9, 2) := by decide +kernel
theorem dX8_flex_151 : decode cX8_flex 151 = .ok (.laload, 1) := by decide +kernel
theorem dX8_flex_152 : decode cX8_flex 152 = .ok (.lmul, 1) := by decide +kernel
theorem dX8_flex_153 : decode cX8_flex 153 = .ok (.iload_n 2, 1) := by decide +kernel
theorem dX8_flex_154 : decode cX8_flex 154 = .ok (.iconst (-1), 1) := by decide +kernel
theorem dX8_flex_155 : decode cX8_flex 155 = .ok (.if_icmp .ne 13, 3) := by decide +kernel
theorem dX8_flex_158 : decode cX8_flex 158 = .ok (.aload_n 0, 1) := by decide +kernel
theorem dX8_flex_159 : decode cX8_flex 159 = .ok (.getfield 59, 3) := by decide +kernel
theorem dX8_flex_162 : decode cX8_flex 162 = .ok (.iload 9, 2) := by decide +kernel
theorem dX8_flex_164 : decode cX8_flex 164 = .ok (.laload, 1) := by decide +kernel
theorem dX8_flex_165 : decode cX8_flex 165 = .ok (.goto 10, 3) := by decide +kernel
theorem dX8_flex_168 : decode cX8_flex 168 = .ok (.aload_n 0, 1) := by decide +kernel
theorem dX8_flex_169 : decode cX8_flex 169 = .ok (.getfield 65, 3) := by decide +kernel
theorem dX8_flex_172 : decode cX8_flex 172 = .ok (.iload 9, 2) := by decide +kernel
theorem dX8_flex_174 : decode cX8_flex 174 = .ok (.laload, 1) := by decide +kernel
theorem dX8_flex_175 : decode cX8_flex 175 = .ok (.lmul, 1) := by decide +kernel
theorem dX8_flex_176 : decode cX8_flex 176 = .ok (.ladd, 1) := by decide +kernel
theorem dX8_flex_177 : decode cX8_flex 177 = .ok (.lstore 7, 2) := by decide +kernel
theorem dX8_flex_179 : decode cX8_flex 179 = .ok (.iinc 9 1, 3) := by decide +kernel
theorem dX8_flex_182 : decode cX8_flex 182 = .ok (.goto (-56), 3) := by decide +kernel
theorem dX8_flex_185 : decode cX8_flex 185 = .ok (.lload 7, 2) := by decide +kernel
theorem dX8_flex_187 : decode cX8_flex 187 = .ok (.aload_n 0, 1) := by decide +kernel
theorem dX8_flex_188 : decode cX8_flex 188 = .ok (.getfield 213, 3) := by decide +kernel
theorem dX8_flex_191 : decode cX8_flex 191 = .ok (.aload_n 0, 1) := by decide +kernel
theorem dX8_flex_192 : decode cX8_flex 192 = .ok (.getfield 213, 3) := by decide +kernel
theorem dX8_flex_195 : decode cX8_flex 195 = .ok (.lmul, 1) := by decide +kernel
theorem dX8_flex_196 : decode cX8_flex 196 = .ok (.iload_n 3, 1) := by decide +kernel
theorem dX8_flex_197 : decode cX8_flex 197 = .ok (.invokestatic 209, 3) := by decide +kernel
theorem dX8_flex_200 : decode cX8_flex 200 = .ok (.lreturn, 1) := by decide +kernel
set_option maxRecDepth 20000 in
theorem ggX8_force_X8_takesLoads : GoodIn wsX8_force wsX8_takesLoads := goodIn_r _ [12, 13, 4, 105, 106, 107, 108, 109, 110, 111, 112, 113, 114, 115, 116, 117, 118, 119, 120, 121, 122, 123, 124, 125, 126, 127, 128, 129, 130, 131, 132, 133, 134, 135, 136, 137, 138, 139] (by decide +kernel) (by decide +kernel)
set_option maxRecDepth 20000 in
theorem gX8_force_X8_takesLoads : GoodIn wsX8_force (wsV RX8 203 RX8 yX8_takesLoads wsX8_takesLoads) := goodIn_app (goodIn_of _ (by decide +kernel)) ggX8_force_X8_takesLoads
set_option maxRecDepth 20000 in
theorem ggX8_force_X8_isPin : GoodIn wsX8_force wsX8_isPin := goodIn_r _ [17, 18, 19, 20, 11, 21, 105, 106, 107, 108, 109, 110, 111, 112, 113, 114, 115, 116, 117, 118, 119, 120, 121, 122, 123, 124, 125, 126, 127, 128, 129, 130, 131, 132, 133, 134, 135, 136, 137, 138, 139] (by decide +kernel) (by decide +kernel)
set_option maxRecDepth 20000 in
theorem gX8_force_X8_isPin : GoodIn wsX8_force (wsV RX8 103 RX8 yX8_isPin wsX8_isPin) := goodIn_app (goodIn_of _ (by decide +kernel)) ggX8_force_X8_isPin
set_option maxRecDepth 20000 in
theorem ggX8_force_X8_in : GoodIn wsX8_force wsX8_in := goodIn_r _ [21] (by decide +kernel) (by decide +kernel)
set_option maxRecDepth 20000 in
theorem gX8_force_X8_in : GoodIn wsX8_force (va_wsS RX8 84 yX8_in wsX8_in) := goodIn_app (goodIn_of _ (by decide +kernel)) ggX8_force_X8_in
set_option maxRecDepth 20000 in
theorem ggX8_force_X8_isOn : GoodIn wsX8_force wsX8_isOn := goodIn_r _ [24] (by decide +kernel) (by decide +kernel)
set_option maxRecDepth 20000 in
theorem gX8_force_X8_isOn : GoodIn wsX8_force (va_wsS RX8 113 yX8_isOn wsX8_isOn) := goodIn_app (goodIn_of _ (by decide +kernel)) ggX8_force_X8_isOn
set_option maxRecDepth 20000 in
theorem ggX8_force_X8_bears : GoodIn wsX8_force wsX8_bears := goodIn_r _ [28, 5, 7, 6, 29, 30, 31, 32, 11, 33, 34, 35, 36, 37, 38, 39, 40, 41, 42, 43, 44, 45, 46, 18, 1, 22, 23, 24, 47, 48, 49, 50, 51, 52, 53, 54, 55, 56, 57, 58, 59, 60, 61, 62, 63, 64, 65, 66, 67, 68, 69, 70, 71, 72, 73, 74, 75, 76, 77, 78, 79, 80, 81, 82, 83, 13, 84, 85, 86, 87, 88, 89, 90, 91, 92, 93, 94, 95, 96, 97, 98, 99, 100, 105, 106, 107, 108, 109, 110, 111, 112, 113, 114, 115, 116, 117, 118, 119, 120, 121, 122, 123, 124, 125, 126, 127, 128, 129, 130, 131, 132, 133, 134, 135, 136, 137, 138, 139] (by decide +kernel) (by decide +kernel)
set_option maxRecDepth 20000 in
theorem gX8_force_X8_bears : GoodIn wsX8_force (wsV RX8 206 RX8 yX8_bears wsX8_bears) := goodIn_app (goodIn_of _ (by decide +kernel)) ggX8_force_X8_bears
set_option maxRecDepth 20000 in
theorem ggX8_force_X8_brings : GoodIn wsX8_force wsX8_brings := goodIn_r _ [50, 51, 52, 53, 54, 105, 106, 107, 108, 109, 110, 111, 112, 113, 114, 115, 116, 117, 118, 119, 120, 121, 122, 123, 124, 125, 126, 127, 128, 129, 130, 131, 132, 133, 134, 135, 136, 137, 138, 139] (by decide +kernel) (by decide +kernel)
set_option maxRecDepth 20000 in
theorem gX8_force_X8_brings : GoodIn wsX8_force (wsV RX8 158 RX8 yX8_brings wsX8_brings) := goodIn_app (goodIn_of _ (by decide +kernel)) ggX8_force_X8_brings
set_option maxRecDepth 20000 in
theorem ggX8_force_X8_told : GoodIn wsX8_force wsX8_told := goodIn_r _ [103, 104, 63, 64, 11, 65, 66, 67, 68] (by decide +kernel) (by decide +kernel)
set_option maxRecDepth 20000 in
theorem gX8_force_X8_told : GoodIn wsX8_force (va_wsS RX8 209 yX8_told wsX8_told) := goodIn_app (goodIn_of _ (by decide +kernel)) ggX8_force_X8_told
theorem dX8_force_0 : decode cX8_force 0 = .ok (.aload_n 0, 1) := by decide +kernel
theorem dX8_force_1 : decode cX8_force 1 = .ok (.invokevirtual 203, 3) := by decide +kernel
theorem dX8_force_4 : decode cX8_force 4 = .ok (.aload_n 0, 1) := by decide +kernel
theorem dX8_force_5 : decode cX8_force 5 = .ok (.aload_n 0, 1) := by decide +kernel
theorem dX8_force_6 : decode cX8_force 6 = .ok (.iload_n 1, 1) := by decide +kernel
theorem dX8_force_7 : decode cX8_force 7 = .ok (.invokevirtual 103, 3) := by decide +kernel
theorem dX8_force_10 : decode cX8_force 10 = .ok (.ifCond .eq 41, 3) := by decide +kernel
theorem dX8_force_13 : decode cX8_force 13 = .ok (.iload_n 2, 1) := by decide +kernel
theorem dX8_force_14 : decode cX8_force 14 = .ok (.i2l, 1) := by decide +kernel
theorem dX8_force_15 : decode cX8_force 15 = .ok (.lconst 0, 1) := by decide +kernel
theorem dX8_force_16 : decode cX8_force 16 = .ok (.lconst 1, 1) := by decide +kernel
theorem dX8_force_17 : decode cX8_force 17 = .ok (.invokestatic 84, 3) := by decide +kernel
theorem dX8_force_20 : decode cX8_force 20 = .ok (.ifCond .eq 31, 3) := by decide +kernel
theorem dX8_force_23 : decode cX8_force 23 = .ok (.aload_n 0, 1) := by decide +kernel
theorem dX8_force_24 : decode cX8_force 24 = .ok (.getfield 16, 3) := by decide +kernel
theorem dX8_force_27 : decode cX8_force 27 = .ok (.iload_n 1, 1) := by decide +kernel
theorem dX8_force_28 : decode cX8_force 28 = .ok (.iaload, 1) := by decide +kernel
theorem dX8_force_29 : decode cX8_force 29 = .ok (.iload_n 2, 1) := by decide +kernel
theorem dX8_force_30 : decode cX8_force 30 = .ok (.invokestatic 113, 3) := by decide +kernel
theorem dX8_force_33 : decode cX8_force 33 = .ok (.ifCond .eq 18, 3) := by decide +kernel
theorem dX8_force_36 : decode cX8_force 36 = .ok (.aload_n 0, 1) := by decide +kernel
theorem dX8_force_37 : decode cX8_force 37 = .ok (.aload_n 0, 1) := by decide +kernel
theorem dX8_force_38 : decode cX8_force 38 = .ok (.getfield 107, 3) := by decide +kernel
theorem dX8_force_41 : decode cX8_force 41 = .ok (.invokevirtual 206, 3) := by decide +kernel
theorem dX8_force_44 : decode cX8_force 44 = .ok (.ifCond .eq 7, 3) := by decide +kernel
theorem dX8_force_47 : decode cX8_force 47 = .ok (.iconst 0, 1) := by decide +kernel
theorem dX8_force_48 : decode cX8_force 48 = .ok (.goto 4, 3) := by decide +kernel
theorem dX8_force_51 : decode cX8_force 51 = .ok (.iconst 1, 1) := by decide +kernel
theorem dX8_force_52 : decode cX8_force 52 = .ok (.putfield 77, 3) := by decide +kernel
theorem dX8_force_55 : decode cX8_force 55 = .ok (.aload_n 0, 1) := by decide +kernel
theorem dX8_force_56 : decode cX8_force 56 = .ok (.getfield 77, 3) := by decide +kernel
theorem dX8_force_59 : decode cX8_force 59 = .ok (.ifCond .le 5, 3) := by decide +kernel
theorem dX8_force_62 : decode cX8_force 62 = .ok (.lconst 0, 1) := by decide +kernel
theorem dX8_force_63 : decode cX8_force 63 = .ok (.lreturn, 1) := by decide +kernel
theorem dX8_force_64 : decode cX8_force 64 = .ok (.aload_n 0, 1) := by decide +kernel
theorem dX8_force_65 : decode cX8_force 65 = .ok (.getfield 19, 3) := by decide +kernel
theorem dX8_force_68 : decode cX8_force 68 = .ok (.iconst 2, 1) := by decide +kernel
theorem dX8_force_69 : decode cX8_force 69 = .ok (.iload_n 1, 1) := by decide +kernel
theorem dX8_force_70 : decode cX8_force 70 = .ok (.imul, 1) := by decide +kernel
theorem dX8_force_71 : decode cX8_force 71 = .ok (.iload_n 2, 1) := by decide +kernel
theorem dX8_force_72 : decode cX8_force 72 = .ok (.iadd, 1) := by decide +kernel
theorem dX8_force_73 : decode cX8_force 73 = .ok (.iaload, 1) := by decide +kernel
theorem dX8_force_74 : decode cX8_force 74 = .ok (.i2l, 1) := by decide +kernel
theorem dX8_force_75 : decode cX8_force 75 = .ok (.aload_n 0, 1) := by decide +kernel
theorem dX8_force_76 : decode cX8_force 76 = .ok (.getfield 189, 3) := by decide +kernel
theorem dX8_force_79 : decode cX8_force 79 = .ok (.lmul, 1) := by decide +kernel
theorem dX8_force_80 : decode cX8_force 80 = .ok (.lstore 4, 2) := by decide +kernel
theorem dX8_force_82 : decode cX8_force 82 = .ok (.iconst 0, 1) := by decide +kernel
theorem dX8_force_83 : decode cX8_force 83 = .ok (.istore 6, 2) := by decide +kernel
theorem dX8_force_85 : decode cX8_force 85 = .ok (.iload 6, 2) := by decide +kernel
theorem dX8_force_87 : decode cX8_force 87 = .ok (.aload_n 0, 1) := by decide +kernel
theorem dX8_force_88 : decode cX8_force 88 = .ok (.getfield 88, 3) := by decide +kernel
theorem dX8_force_91 : decode cX8_force 91 = .ok (.if_icmp .ge 31, 3) := by decide +kernel
theorem dX8_force_94 : decode cX8_force 94 = .ok (.lload 4, 2) := by decide +kernel
theorem dX8_force_96 : decode cX8_force 96 = .ok (.aload_n 0, 1) := by decide +kernel
theorem dX8_force_97 : decode cX8_force 97 = .ok (.getfield 53, 3) := by decide +kernel
theorem dX8_force_100 : decode cX8_force 100 = .ok (.iload 6, 2) := by decide +kernel
theorem dX8_force_102 : decode cX8_force 102 = .ok (.laload, 1) := by decide +kernel
theorem dX8_force_103 : decode cX8_force 103 = .ok (.aload_n 0, 1) := by decide +kernel
theorem dX8_force_104 : decode cX8_force 104 = .ok (.iload 6, 2) := by decide +kernel
theorem dX8_force_106 : decode cX8_force 106 = .ok (.iload_n 1, 1) := by decide +kernel
theorem dX8_force_107 : decode cX8_force 107 = .ok (.iload_n 2, 1) := by decide +kernel
theorem dX8_force_108 : decode cX8_force 108 = .ok (.invokevirtual 158, 3) := by decide +kernel
theorem dX8_force_111 : decode cX8_force 111 = .ok (.i2l, 1) := by decide +kernel
theorem dX8_force_112 : decode cX8_force 112 = .ok (.lmul, 1) := by decide +kernel
theorem dX8_force_113 : decode cX8_force 113 = .ok (.ladd, 1) := by decide +kernel
theorem dX8_force_114 : decode cX8_force 114 = .ok (.lstore 4, 2) := by decide +kernel
theorem dX8_force_116 : decode cX8_force 116 = .ok (.iinc 6 1, 3) := by decide +kernel
theorem dX8_force_119 : decode cX8_force 119 = .ok (.goto (-34), 3) := by decide +kernel
theorem dX8_force_122 : decode cX8_force 122 = .ok (.lload 4, 2) := by decide +kernel
theorem dX8_force_124 : decode cX8_force 124 = .ok (.lneg, 1) := by decide +kernel
theorem dX8_force_125 : decode cX8_force 125 = .ok (.aload_n 0, 1) := by decide +kernel
theorem dX8_force_126 : decode cX8_force 126 = .ok (.getfield 189, 3) := by decide +kernel
theorem dX8_force_129 : decode cX8_force 129 = .ok (.iload_n 3, 1) := by decide +kernel
theorem dX8_force_130 : decode cX8_force 130 = .ok (.invokestatic 209, 3) := by decide +kernel
theorem dX8_force_133 : decode cX8_force 133 = .ok (.lreturn, 1) := by decide +kernel
set_option maxRecDepth 20000 in
theorem ggX8_influence_X8_takesNone : GoodIn wsX8_influence wsX8_takesNone := goodIn_r _ [10, 2, 108, 109, 110, 111, 112, 113, 114, 115, 116, 117, 118, 119, 120, 121, 122, 123, 124, 125, 126, 127, 128, 129, 130, 131, 132, 133, 134, 135, 136, 137, 138, 139, 140, 141, 142] (by decide +kernel) (by decide +kernel)
set_option maxRecDepth 20000 in
theorem gX8_influence_X8_takesNone : GoodIn wsX8_influence (wsV RX8 230 RX8 yX8_takesNone wsX8_takesNone) := goodIn_app (goodIn_of _ (by decide +kernel)) ggX8_influence_X8_takesNone
set_option maxRecDepth 20000 in
theorem ggX8_influence_X8_isBar : GoodIn wsX8_influence wsX8_isBar := goodIn_r _ [14, 15, 16, 17, 9, 18, 108, 109, 110, 111, 112, 113, 114, 115, 116, 117, 118, 119, 120, 121, 122, 123, 124, 125, 126, 127, 128, 129, 130, 131, 132, 133, 134, 135, 136, 137, 138, 139, 140, 141, 142] (by decide +kernel) (by decide +kernel)
set_option maxRecDepth 20000 in
theorem gX8_influence_X8_isBar : GoodIn wsX8_influence (wsV RX8 110 RX8 yX8_isBar wsX8_isBar) := goodIn_app (goodIn_of _ (by decide +kernel)) ggX8_influence_X8_isBar
set_option maxRecDepth 20000 in
theorem ggX8_influence_X8_isOn : GoodIn wsX8_influence wsX8_isOn := goodIn_r _ [21] (by decide +kernel) (by decide +kernel)
set_option maxRecDepth 20000 in
theorem gX8_influence_X8_isOn : GoodIn wsX8_influence (va_wsS RX8 113 yX8_isOn wsX8_isOn) := goodIn_app (goodIn_of _ (by decide +kernel)) ggX8_influence_X8_isOn
set_option maxRecDepth 20000 in
theorem ggX8_influence_X8_isPin : GoodIn wsX8_influence wsX8_isPin := goodIn_r _ [25, 26, 16, 17, 9, 18, 108, 109, 110, 111, 112, 113, 114, 115, 116, 117, 118, 119, 120, 121, 122, 123, 124, 125, 126, 127, 128, 129, 130, 131, 132, 133, 134, 135, 136, 137, 138, 139, 140, 141, 142] (by decide +kernel) (by decide +kernel)
set_option maxRecDepth 20000 in
theorem gX8_influence_X8_isPin : GoodIn wsX8_influence (wsV RX8 103 RX8 yX8_isPin wsX8_isPin) := goodIn_app (goodIn_of _ (by decide +kernel)) ggX8_influence_X8_isPin
set_option maxRecDepth 20000 in
theorem ggX8_influence_X8_in : GoodIn wsX8_influence wsX8_in := goodIn_r _ [18] (by decide +kernel) (by decide +kernel)
set_option maxRecDepth 20000 in
theorem gX8_influence_X8_in : GoodIn wsX8_influence (va_wsS RX8 84 yX8_in wsX8_in) := goodIn_app (goodIn_of _ (by decide +kernel)) ggX8_influence_X8_in
set_option maxRecDepth 20000 in
theorem ggX8_influence_X8_bears : GoodIn wsX8_influence wsX8_bears := goodIn_r _ [30, 5, 4, 15, 31, 32, 33, 34, 9, 35, 36, 37, 38, 39, 40, 41, 42, 43, 44, 45, 46, 47, 48, 26, 49, 19, 20, 21, 50, 51, 52, 53, 54, 55, 56, 57, 58, 59, 60, 61, 62, 63, 64, 65, 66, 67, 68, 69, 70, 71, 72, 73, 74, 75, 76, 77, 78, 79, 80, 81, 82, 83, 84, 85, 86, 2, 87, 88, 89, 90, 91, 92, 93, 94, 95, 96, 97, 98, 99, 100, 101, 102, 103, 108, 109, 110, 111, 112, 113, 114, 115, 116, 117, 118, 119, 120, 121, 122, 123, 124, 125, 126, 127, 128, 129, 130, 131, 132, 133, 134, 135, 136, 137, 138, 139, 140, 141, 142] (by decide +kernel) (by decide +kernel)
set_option maxRecDepth 20000 in
theorem gX8_influence_X8_bears : GoodIn wsX8_influence (wsV RX8 206 RX8 yX8_bears wsX8_bears) := goodIn_app (goodIn_of _ (by decide +kernel)) ggX8_influence_X8_bears
set_option maxRecDepth 20000 in
theorem ggX8_influence_X8_told : GoodIn wsX8_influence wsX8_told := goodIn_r _ [106, 107, 66, 67, 9, 68, 69, 70, 71] (by decide +kernel) (by decide +kernel)
set_option maxRecDepth 20000 in
theorem gX8_influence_X8_told : GoodIn wsX8_influence (va_wsS RX8 209 yX8_told wsX8_told) := goodIn_app (goodIn_of _ (by decide +kernel)) ggX8_influence_X8_told
theorem dX8_influence_0 : decode cX8_influence 0 = .ok (.aload_n 0, 1) := by decide +kernel
theorem dX8_influence_1 : decode cX8_influence 1 = .ok (.invokevirtual 230, 3) := by decide +kernel
theorem dX8_influence_4 : decode cX8_influence 4 = .ok (.aload_n 0, 1) := by decide +kernel
theorem dX8_influence_5 : decode cX8_influence 5 = .ok (.iload_n 1, 1) := by decide +kernel
theorem dX8_influence_6 : decode cX8_influence 6 = .ok (.invokevirtual 110, 3) := by decide +kernel
theorem dX8_influence_9 : decode cX8_influence 9 = .ok (.ifCond .eq 36, 3) := by decide +kernel
theorem dX8_influence_12 : decode cX8_influence 12 = .ok (.aload_n 0, 1) := by decide +kernel
theorem dX8_influence_13 : decode cX8_influence 13 = .ok (.getfield 107, 3) := by decide +kernel
theorem dX8_influence_16 : decode cX8_influence 16 = .ok (.iload_n 1, 1) := by decide +kernel
theorem dX8_influence_17 : decode cX8_influence 17 = .ok (.invokestatic 113, 3) := by decide +kernel
theorem dX8_influence_20 : decode cX8_influence 20 = .ok (.ifCond .eq 25, 3) := by decide +kernel
theorem dX8_influence_23 : decode cX8_influence 23 = .ok (.aload_n 0, 1) := by decide +kernel
theorem dX8_influence_24 : decode cX8_influence 24 = .ok (.iload_n 2, 1) := by decide +kernel
theorem dX8_influence_25 : decode cX8_influence 25 = .ok (.invokevirtual 103, 3) := by decide +kernel
theorem dX8_influence_28 : decode cX8_influence 28 = .ok (.ifCond .eq 17, 3) := by decide +kernel
theorem dX8_influence_31 : decode cX8_influence 31 = .ok (.iload_n 3, 1) := by decide +kernel
theorem dX8_influence_32 : decode cX8_influence 32 = .ok (.i2l, 1) := by decide +kernel
theorem dX8_influence_33 : decode cX8_influence 33 = .ok (.lconst 0, 1) := by decide +kernel
theorem dX8_influence_34 : decode cX8_influence 34 = .ok (.lconst 1, 1) := by decide +kernel
theorem dX8_influence_35 : decode cX8_influence 35 = .ok (.invokestatic 84, 3) := by decide +kernel
theorem dX8_influence_38 : decode cX8_influence 38 = .ok (.ifCond .eq 7, 3) := by decide +kernel
theorem dX8_influence_41 : decode cX8_influence 41 = .ok (.iconst 1, 1) := by decide +kernel
theorem dX8_influence_42 : decode cX8_influence 42 = .ok (.goto 4, 3) := by decide +kernel
theorem dX8_influence_45 : decode cX8_influence 45 = .ok (.iconst 0, 1) := by decide +kernel
theorem dX8_influence_46 : decode cX8_influence 46 = .ok (.istore 5, 2) := by decide +kernel
theorem dX8_influence_48 : decode cX8_influence 48 = .ok (.iload 5, 2) := by decide +kernel
theorem dX8_influence_50 : decode cX8_influence 50 = .ok (.ifCond .eq 14, 3) := by decide +kernel
theorem dX8_influence_53 : decode cX8_influence 53 = .ok (.aload_n 0, 1) := by decide +kernel
theorem dX8_influence_54 : decode cX8_influence 54 = .ok (.getfield 56, 3) := by decide +kernel
theorem dX8_influence_57 : decode cX8_influence 57 = .ok (.iconst 2, 1) := by decide +kernel
theorem dX8_influence_58 : decode cX8_influence 58 = .ok (.iload_n 2, 1) := by decide +kernel
theorem dX8_influence_59 : decode cX8_influence 59 = .ok (.imul, 1) := by decide +kernel
theorem dX8_influence_60 : decode cX8_influence 60 = .ok (.iload_n 3, 1) := by decide +kernel
theorem dX8_influence_61 : decode cX8_influence 61 = .ok (.iadd, 1) := by decide +kernel
theorem dX8_influence_62 : decode cX8_influence 62 = .ok (.iconst 1, 1) := by decide +kernel
theorem dX8_influence_63 : decode cX8_influence 63 = .ok (.iastore, 1) := by decide +kernel
theorem dX8_influence_64 : decode cX8_influence 64 = .ok (.aload_n 0, 1) := by decide +kernel
theorem dX8_influence_65 : decode cX8_influence 65 = .ok (.iload 5, 2) := by decide +kernel
theorem dX8_influence_67 : decode cX8_influence 67 = .ok (.ifCond .eq 18, 3) := by decide +kernel
theorem dX8_influence_70 : decode cX8_influence 70 = .ok (.aload_n 0, 1) := by decide +kernel
theorem dX8_influence_71 : decode cX8_influence 71 = .ok (.aload_n 0, 1) := by decide +kernel
theorem dX8_influence_72 : decode cX8_influence 72 = .ok (.getfield 107, 3) := by decide +kernel
theorem dX8_influence_75 : decode cX8_influence 75 = .ok (.invokevirtual 206, 3) := by decide +kernel
theorem dX8_influence_78 : decode cX8_influence 78 = .ok (.ifCond .eq 7, 3) := by decide +kernel
theorem dX8_influence_81 : decode cX8_influence 81 = .ok (.iconst 0, 1) := by decide +kernel
theorem dX8_influence_82 : decode cX8_influence 82 = .ok (.goto 4, 3) := by decide +kernel
theorem dX8_influence_85 : decode cX8_influence 85 = .ok (.iconst 1, 1) := by decide +kernel
theorem dX8_influence_86 : decode cX8_influence 86 = .ok (.putfield 77, 3) := by decide +kernel
theorem dX8_influence_89 : decode cX8_influence 89 = .ok (.aload_n 0, 1) := by decide +kernel
theorem dX8_influence_90 : decode cX8_influence 90 = .ok (.getfield 77, 3) := by decide +kernel
theorem dX8_influence_93 : decode cX8_influence 93 = .ok (.ifCond .le 7, 3) := by decide +kernel
theorem dX8_influence_96 : decode cX8_influence 96 = .ok (.lconst 0, 1) := by decide +kernel
theorem dX8_influence_97 : decode cX8_influence 97 = .ok (.goto 18, 3) := by decide +kernel
theorem dX8_influence_100 : decode cX8_influence 100 = .ok (.aload_n 0, 1) := by decide +kernel
theorem dX8_influence_101 : decode cX8_influence 101 = .ok (.getfield 53, 3) := by decide +kernel
theorem dX8_influence_104 : decode cX8_influence 104 = .ok (.iload_n 1, 1) := by decide +kernel
theorem dX8_influence_105 : decode cX8_influence 105 = .ok (.laload, 1) := by decide +kernel
theorem dX8_influence_106 : decode cX8_influence 106 = .ok (.aload_n 0, 1) := by decide +kernel
theorem dX8_influence_107 : decode cX8_influence 107 = .ok (.getfield 189, 3) := by decide +kernel
theorem dX8_influence_110 : decode cX8_influence 110 = .ok (.iload 4, 2) := by decide +kernel
theorem dX8_influence_112 : decode cX8_influence 112 = .ok (.invokestatic 209, 3) := by decide +kernel
theorem dX8_influence_115 : decode cX8_influence 115 = .ok (.lreturn, 1) := by decide +kernel
set_option maxRecDepth 20000 in
theorem ggX8_endIn_X8_isOn : GoodIn wsX8_endIn wsX8_isOn := goodIn_r _ [6] (by decide +kernel) (by decide +kernel)
set_option maxRecDepth 20000 in
theorem gX8_endIn_X8_isOn : GoodIn wsX8_endIn (va_wsS RX8 113 yX8_isOn wsX8_isOn) := goodIn_app (goodIn_of _ (by decide +kernel)) ggX8_endIn_X8_isOn
theorem dX8_endIn_0 : decode cX8_endIn 0 = .ok (.iload_n 2, 1) := by decide +kernel
theorem dX8_endIn_1 : decode cX8_endIn 1 = .ok (.aload_n 0, 1) := by decide +kernel
theorem dX8_endIn_2 : decode cX8_endIn 2 = .ok (.getfield 22, 3) := by decide +kernel
theorem dX8_endIn_5 : decode cX8_endIn 5 = .ok (.iload_n 1, 1) := by decide +kernel
theorem dX8_endIn_6 : decode cX8_endIn 6 = .ok (.iaload, 1) := by decide +kernel
theorem dX8_endIn_7 : decode cX8_endIn 7 = .ok (.invokestatic 113, 3) := by decide +kernel
theorem dX8_endIn_10 : decode cX8_endIn 10 = .ok (.istore_n 3, 1) := by decide +kernel
theorem dX8_endIn_11 : decode cX8_endIn 11 = .ok (.iload_n 2, 1) := by decide +kernel
theorem dX8_endIn_12 : decode cX8_endIn 12 = .ok (.aload_n 0, 1) := by decide +kernel
theorem dX8_endIn_13 : decode cX8_endIn 13 = .ok (.getfield 25, 3) := by decide +kernel
theorem dX8_endIn_16 : decode cX8_endIn 16 = .ok (.iload_n 1, 1) := by decide +kernel
theorem dX8_endIn_17 : decode cX8_endIn 17 = .ok (.iaload, 1) := by decide +kernel
theorem dX8_endIn_18 : decode cX8_endIn 18 = .ok (.invokestatic 113, 3) := by decide +kernel
theorem dX8_endIn_21 : decode cX8_endIn 21 = .ok (.istore 4, 2) := by decide +kernel
theorem dX8_endIn_23 : decode cX8_endIn 23 = .ok (.iload_n 3, 1) := by decide +kernel
theorem dX8_endIn_24 : decode cX8_endIn 24 = .ok (.iload 4, 2) := by decide +kernel
theorem dX8_endIn_26 : decode cX8_endIn 26 = .ok (.if_icmp .ne 7, 3) := by decide +kernel
theorem dX8_endIn_29 : decode cX8_endIn 29 = .ok (.iconst (-1), 1) := by decide +kernel
theorem dX8_endIn_30 : decode cX8_endIn 30 = .ok (.goto 22, 3) := by decide +kernel
theorem dX8_endIn_33 : decode cX8_endIn 33 = .ok (.iload_n 3, 1) := by decide +kernel
theorem dX8_endIn_34 : decode cX8_endIn 34 = .ok (.ifCond .eq 12, 3) := by decide +kernel
theorem dX8_endIn_37 : decode cX8_endIn 37 = .ok (.aload_n 0, 1) := by decide +kernel
theorem dX8_endIn_38 : decode cX8_endIn 38 = .ok (.getfield 22, 3) := by decide +kernel
theorem dX8_endIn_41 : decode cX8_endIn 41 = .ok (.iload_n 1, 1) := by decide +kernel
theorem dX8_endIn_42 : decode cX8_endIn 42 = .ok (.iaload, 1) := by decide +kernel
theorem dX8_endIn_43 : decode cX8_endIn 43 = .ok (.goto 9, 3) := by decide +kernel
theorem dX8_endIn_46 : decode cX8_endIn 46 = .ok (.aload_n 0, 1) := by decide +kernel
theorem dX8_endIn_47 : decode cX8_endIn 47 = .ok (.getfield 25, 3) := by decide +kernel
theorem dX8_endIn_50 : decode cX8_endIn 50 = .ok (.iload_n 1, 1) := by decide +kernel
theorem dX8_endIn_51 : decode cX8_endIn 51 = .ok (.iaload, 1) := by decide +kernel
theorem dX8_endIn_52 : decode cX8_endIn 52 = .ok (.ireturn, 1) := by decide +kernel
set_option maxRecDepth 20000 in
theorem ggX8_cuts_X8_in : GoodIn wsX8_cuts wsX8_in := goodIn_r _ [9] (by decide +kernel) (by decide +kernel)
set_option maxRecDepth 20000 in
theorem gX8_cuts_X8_in : GoodIn wsX8_cuts (va_wsS RX8 84 yX8_in wsX8_in) := goodIn_app (goodIn_of _ (by decide +kernel)) ggX8_cuts_X8_in
set_option maxRecDepth 20000 in
theorem ggX8_cuts_X8_isOn : GoodIn wsX8_cuts wsX8_isOn := goodIn_r _ [12] (by decide +kernel) (by decide +kernel)
set_option maxRecDepth 20000 in
theorem gX8_cuts_X8_isOn : GoodIn wsX8_cuts (va_wsS RX8 113 yX8_isOn wsX8_isOn) := goodIn_app (goodIn_of _ (by decide +kernel)) ggX8_cuts_X8_isOn
set_option maxRecDepth 20000 in
theorem ggX8_cuts_X8_endIn : GoodIn wsX8_cuts wsX8_endIn := goodIn_r _ [16, 17, 18, 10, 11, 8, 12, 19, 20, 21, 22, 23, 24, 25, 26, 27, 28, 29, 30, 31, 32, 33, 34, 35, 36, 37, 38, 39, 40, 41, 42, 43, 44, 45, 46, 47, 48, 49, 50, 51, 52, 53] (by decide +kernel) (by decide +kernel)
set_option maxRecDepth 20000 in
theorem gX8_cuts_X8_endIn : GoodIn wsX8_cuts (wsV RX8 233 RX8 yX8_endIn wsX8_endIn) := goodIn_app (goodIn_of _ (by decide +kernel)) ggX8_cuts_X8_endIn
theorem dX8_cuts_0 : decode cX8_cuts 0 = .ok (.iload_n 1, 1) := by decide +kernel
theorem dX8_cuts_1 : decode cX8_cuts 1 = .ok (.i2l, 1) := by decide +kernel
theorem dX8_cuts_2 : decode cX8_cuts 2 = .ok (.lconst 1, 1) := by decide +kernel
theorem dX8_cuts_3 : decode cX8_cuts 3 = .ok (.iconst 1, 1) := by decide +kernel
theorem dX8_cuts_4 : decode cX8_cuts 4 = .ok (.aload_n 0, 1) := by decide +kernel
theorem dX8_cuts_5 : decode cX8_cuts 5 = .ok (.getfield 81, 3) := by decide +kernel
theorem dX8_cuts_8 : decode cX8_cuts 8 = .ok (.ishl, 1) := by decide +kernel
theorem dX8_cuts_9 : decode cX8_cuts 9 = .ok (.iconst 1, 1) := by decide +kernel
theorem dX8_cuts_10 : decode cX8_cuts 10 = .ok (.isub, 1) := by decide +kernel
theorem dX8_cuts_11 : decode cX8_cuts 11 = .ok (.i2l, 1) := by decide +kernel
theorem dX8_cuts_12 : decode cX8_cuts 12 = .ok (.invokestatic 84, 3) := by decide +kernel
theorem dX8_cuts_15 : decode cX8_cuts 15 = .ok (.ifCond .ne 5, 3) := by decide +kernel
theorem dX8_cuts_18 : decode cX8_cuts 18 = .ok (.iconst 0, 1) := by decide +kernel
theorem dX8_cuts_19 : decode cX8_cuts 19 = .ok (.ireturn, 1) := by decide +kernel
theorem dX8_cuts_20 : decode cX8_cuts 20 = .ok (.iconst 0, 1) := by decide +kernel
theorem dX8_cuts_21 : decode cX8_cuts 21 = .ok (.istore_n 2, 1) := by decide +kernel
theorem dX8_cuts_22 : decode cX8_cuts 22 = .ok (.iconst 0, 1) := by decide +kernel
theorem dX8_cuts_23 : decode cX8_cuts 23 = .ok (.istore_n 3, 1) := by decide +kernel
theorem dX8_cuts_24 : decode cX8_cuts 24 = .ok (.iload_n 3, 1) := by decide +kernel
theorem dX8_cuts_25 : decode cX8_cuts 25 = .ok (.aload_n 0, 1) := by decide +kernel
theorem dX8_cuts_26 : decode cX8_cuts 26 = .ok (.getfield 88, 3) := by decide +kernel
theorem dX8_cuts_29 : decode cX8_cuts 29 = .ok (.if_icmp .ge 47, 3) := by decide +kernel
theorem dX8_cuts_32 : decode cX8_cuts 32 = .ok (.aload_n 0, 1) := by decide +kernel
theorem dX8_cuts_33 : decode cX8_cuts 33 = .ok (.getfield 107, 3) := by decide +kernel
theorem dX8_cuts_36 : decode cX8_cuts 36 = .ok (.iload_n 3, 1) := by decide +kernel
theorem dX8_cuts_37 : decode cX8_cuts 37 = .ok (.invokestatic 113, 3) := by decide +kernel
theorem dX8_cuts_40 : decode cX8_cuts 40 = .ok (.ifCond .eq 30, 3) := by decide +kernel
theorem dX8_cuts_43 : decode cX8_cuts 43 = .ok (.aload_n 0, 1) := by decide +kernel
theorem dX8_cuts_44 : decode cX8_cuts 44 = .ok (.iload_n 3, 1) := by decide +kernel
theorem dX8_cuts_45 : decode cX8_cuts 45 = .ok (.iload_n 1, 1) := by decide +kernel
theorem dX8_cuts_46 : decode cX8_cuts 46 = .ok (.invokevirtual 233, 3) := by decide +kernel
theorem dX8_cuts_49 : decode cX8_cuts 49 = .ok (.iconst (-1), 1) := by decide +kernel
theorem dX8_cuts_50 : decode cX8_cuts 50 = .ok (.if_icmp .eq 20, 3) := by decide +kernel
theorem dX8_cuts_53 : decode cX8_cuts 53 = .ok (.iload_n 2, 1) := by decide +kernel
theorem dX8_cuts_54 : decode cX8_cuts 54 = .ok (.iconst 3, 1) := by decide +kernel
theorem dX8_cuts_55 : decode cX8_cuts 55 = .ok (.if_icmp .ne 5, 3) := by decide +kernel
theorem dX8_cuts_58 : decode cX8_cuts 58 = .ok (.iconst 0, 1) := by decide +kernel
theorem dX8_cuts_59 : decode cX8_cuts 59 = .ok (.ireturn, 1) := by decide +kernel
theorem dX8_cuts_60 : decode cX8_cuts 60 = .ok (.aload_n 0, 1) := by decide +kernel
theorem dX8_cuts_61 : decode cX8_cuts 61 = .ok (.getfield 68, 3) := by decide +kernel
theorem dX8_cuts_64 : decode cX8_cuts 64 = .ok (.iload_n 2, 1) := by decide +kernel
theorem dX8_cuts_65 : decode cX8_cuts 65 = .ok (.iload_n 3, 1) := by decide +kernel
theorem dX8_cuts_66 : decode cX8_cuts 66 = .ok (.iastore, 1) := by decide +kernel
theorem dX8_cuts_67 : decode cX8_cuts 67 = .ok (.iinc 2 1, 3) := by decide +kernel
theorem dX8_cuts_70 : decode cX8_cuts 70 = .ok (.iinc 3 1, 3) := by decide +kernel
theorem dX8_cuts_73 : decode cX8_cuts 73 = .ok (.goto (-49), 3) := by decide +kernel
theorem dX8_cuts_76 : decode cX8_cuts 76 = .ok (.iconst 0, 1) := by decide +kernel
theorem dX8_cuts_77 : decode cX8_cuts 77 = .ok (.istore_n 3, 1) := by decide +kernel
theorem dX8_cuts_78 : decode cX8_cuts 78 = .ok (.iload_n 3, 1) := by decide +kernel
theorem dX8_cuts_79 : decode cX8_cuts 79 = .ok (.aload_n 0, 1) := by decide +kernel
theorem dX8_cuts_80 : decode cX8_cuts 80 = .ok (.getfield 81, 3) := by decide +kernel
theorem dX8_cuts_83 : decode cX8_cuts 83 = .ok (.if_icmp .ge 28, 3) := by decide +kernel
theorem dX8_cuts_86 : decode cX8_cuts 86 = .ok (.iload_n 1, 1) := by decide +kernel
theorem dX8_cuts_87 : decode cX8_cuts 87 = .ok (.iload_n 3, 1) := by decide +kernel
theorem dX8_cuts_88 : decode cX8_cuts 88 = .ok (.invokestatic 113, 3) := by decide +kernel
theorem dX8_cuts_91 : decode cX8_cuts 91 = .ok (.ifCond .eq 14, 3) := by decide +kernel
theorem dX8_cuts_94 : decode cX8_cuts 94 = .ok (.aload_n 0, 1) := by decide +kernel
theorem dX8_cuts_95 : decode cX8_cuts 95 = .ok (.getfield 16, 3) := by decide +kernel
theorem dX8_cuts_98 : decode cX8_cuts 98 = .ok (.iload_n 3, 1) := by decide +kernel
theorem dX8_cuts_99 : decode cX8_cuts 99 = .ok (.iaload, 1) := by decide +kernel
theorem dX8_cuts_100 : decode cX8_cuts 100 = .ok (.ifCond .eq 5, 3) := by decide +kernel
theorem dX8_cuts_103 : decode cX8_cuts 103 = .ok (.iconst 0, 1) := by decide +kernel
theorem dX8_cuts_104 : decode cX8_cuts 104 = .ok (.ireturn, 1) := by decide +kernel
theorem dX8_cuts_105 : decode cX8_cuts 105 = .ok (.iinc 3 1, 3) := by decide +kernel
theorem dX8_cuts_108 : decode cX8_cuts 108 = .ok (.goto (-30), 3) := by decide +kernel
theorem dX8_cuts_111 : decode cX8_cuts 111 = .ok (.iload_n 2, 1) := by decide +kernel
theorem dX8_cuts_112 : decode cX8_cuts 112 = .ok (.iconst 3, 1) := by decide +kernel
theorem dX8_cuts_113 : decode cX8_cuts 113 = .ok (.if_icmp .ne 7, 3) := by decide +kernel
theorem dX8_cuts_116 : decode cX8_cuts 116 = .ok (.iconst 1, 1) := by decide +kernel
theorem dX8_cuts_117 : decode cX8_cuts 117 = .ok (.goto 4, 3) := by decide +kernel
theorem dX8_cuts_120 : decode cX8_cuts 120 = .ok (.iconst 0, 1) := by decide +kernel
theorem dX8_cuts_121 : decode cX8_cuts 121 = .ok (.ireturn, 1) := by decide +kernel
set_option maxRecDepth 20000 in
theorem ggX8_laysSums_X8_endIn : GoodIn wsX8_laysSums wsX8_endIn := goodIn_r _ [11, 12, 13, 14, 15, 10, 16, 21, 22, 23, 24, 25, 26, 27, 28, 29, 30, 31, 32, 33, 34, 35, 36, 37, 38, 39, 40, 41, 42, 43, 44, 45, 46, 47, 48, 49, 50, 51, 52, 53, 54, 55] (by decide +kernel) (by decide +kernel)
set_option maxRecDepth 20000 in
theorem gX8_laysSums_X8_endIn : GoodIn wsX8_laysSums (wsV RX8 233 RX8 yX8_endIn wsX8_endIn) := goodIn_app (goodIn_of _ (by decide +kernel)) ggX8_laysSums_X8_endIn
set_option maxRecDepth 20000 in
theorem ggX8_laysSums_X8_brings : GoodIn wsX8_laysSums wsX8_brings := goodIn_r _ [20, 12, 13, 3, 4, 21, 22, 23, 24, 25, 26, 27, 28, 29, 30, 31, 32, 33, 34, 35, 36, 37, 38, 39, 40, 41, 42, 43, 44, 45, 46, 47, 48, 49, 50, 51, 52, 53, 54, 55] (by decide +kernel) (by decide +kernel)
set_option maxRecDepth 20000 in
theorem gX8_laysSums_X8_brings : GoodIn wsX8_laysSums (wsV RX8 158 RX8 yX8_brings wsX8_brings) := goodIn_app (goodIn_of _ (by decide +kernel)) ggX8_laysSums_X8_brings
set_option maxRecDepth 20000 in
theorem ggX8_laysSums_X8_isOn : GoodIn wsX8_laysSums wsX8_isOn := goodIn_r _ [16] (by decide +kernel) (by decide +kernel)
set_option maxRecDepth 20000 in
theorem gX8_laysSums_X8_isOn : GoodIn wsX8_laysSums (va_wsS RX8 113 yX8_isOn wsX8_isOn) := goodIn_app (goodIn_of _ (by decide +kernel)) ggX8_laysSums_X8_isOn
theorem dX8_laysSums_0 : decode cX8_laysSums 0 = .ok (.iconst 0, 1) := by decide +kernel
theorem dX8_laysSums_1 : decode cX8_laysSums 1 = .ok (.istore_n 2, 1) := by decide +kernel
theorem dX8_laysSums_2 : decode cX8_laysSums 2 = .ok (.iload_n 2, 1) := by decide +kernel
theorem dX8_laysSums_3 : decode cX8_laysSums 3 = .ok (.iconst 3, 1) := by decide +kernel
theorem dX8_laysSums_4 : decode cX8_laysSums 4 = .ok (.if_icmp .ge 110, 3) := by decide +kernel
theorem dX8_laysSums_7 : decode cX8_laysSums 7 = .ok (.aload_n 0, 1) := by decide +kernel
theorem dX8_laysSums_8 : decode cX8_laysSums 8 = .ok (.aload_n 0, 1) := by decide +kernel
theorem dX8_laysSums_9 : decode cX8_laysSums 9 = .ok (.getfield 68, 3) := by decide +kernel
theorem dX8_laysSums_12 : decode cX8_laysSums 12 = .ok (.iload_n 2, 1) := by decide +kernel
theorem dX8_laysSums_13 : decode cX8_laysSums 13 = .ok (.iaload, 1) := by decide +kernel
theorem dX8_laysSums_14 : decode cX8_laysSums 14 = .ok (.iload_n 1, 1) := by decide +kernel
theorem dX8_laysSums_15 : decode cX8_laysSums 15 = .ok (.invokevirtual 233, 3) := by decide +kernel
theorem dX8_laysSums_18 : decode cX8_laysSums 18 = .ok (.istore_n 3, 1) := by decide +kernel
theorem dX8_laysSums_19 : decode cX8_laysSums 19 = .ok (.aload_n 0, 1) := by decide +kernel
theorem dX8_laysSums_20 : decode cX8_laysSums 20 = .ok (.getfield 71, 3) := by decide +kernel
theorem dX8_laysSums_23 : decode cX8_laysSums 23 = .ok (.iconst 3, 1) := by decide +kernel
theorem dX8_laysSums_24 : decode cX8_laysSums 24 = .ok (.iload_n 2, 1) := by decide +kernel
theorem dX8_laysSums_25 : decode cX8_laysSums 25 = .ok (.imul, 1) := by decide +kernel
theorem dX8_laysSums_26 : decode cX8_laysSums 26 = .ok (.aload_n 0, 1) := by decide +kernel
theorem dX8_laysSums_27 : decode cX8_laysSums 27 = .ok (.aload_n 0, 1) := by decide +kernel
theorem dX8_laysSums_28 : decode cX8_laysSums 28 = .ok (.getfield 68, 3) := by decide +kernel
theorem dX8_laysSums_31 : decode cX8_laysSums 31 = .ok (.iload_n 2, 1) := by decide +kernel
theorem dX8_laysSums_32 : decode cX8_laysSums 32 = .ok (.iaload, 1) := by decide +kernel
theorem dX8_laysSums_33 : decode cX8_laysSums 33 = .ok (.iload_n 3, 1) := by decide +kernel
theorem dX8_laysSums_34 : decode cX8_laysSums 34 = .ok (.iconst 0, 1) := by decide +kernel
theorem dX8_laysSums_35 : decode cX8_laysSums 35 = .ok (.invokevirtual 158, 3) := by decide +kernel
theorem dX8_laysSums_38 : decode cX8_laysSums 38 = .ok (.i2l, 1) := by decide +kernel
theorem dX8_laysSums_39 : decode cX8_laysSums 39 = .ok (.lastore, 1) := by decide +kernel
theorem dX8_laysSums_40 : decode cX8_laysSums 40 = .ok (.aload_n 0, 1) := by decide +kernel
theorem dX8_laysSums_41 : decode cX8_laysSums 41 = .ok (.getfield 71, 3) := by decide +kernel
theorem dX8_laysSums_44 : decode cX8_laysSums 44 = .ok (.iconst 3, 1) := by decide +kernel
theorem dX8_laysSums_45 : decode cX8_laysSums 45 = .ok (.iload_n 2, 1) := by decide +kernel
theorem dX8_laysSums_46 : decode cX8_laysSums 46 = .ok (.imul, 1) := by decide +kernel
theorem dX8_laysSums_47 : decode cX8_laysSums 47 = .ok (.iconst 1, 1) := by decide +kernel
theorem dX8_laysSums_48 : decode cX8_laysSums 48 = .ok (.iadd, 1) := by decide +kernel
theorem dX8_laysSums_49 : decode cX8_laysSums 49 = .ok (.aload_n 0, 1) := by decide +kernel
theorem dX8_laysSums_50 : decode cX8_laysSums 50 = .ok (.aload_n 0, 1) := by decide +kernel
theorem dX8_laysSums_51 : decode cX8_laysSums 51 = .ok (.getfield 68, 3) := by decide +kernel
theorem dX8_laysSums_54 : decode cX8_laysSums 54 = .ok (.iload_n 2, 1) := by decide +kernel
theorem dX8_laysSums_55 : decode cX8_laysSums 55 = .ok (.iaload, 1) := by decide +kernel
theorem dX8_laysSums_56 : decode cX8_laysSums 56 = .ok (.iload_n 3, 1) := by decide +kernel
theorem dX8_laysSums_57 : decode cX8_laysSums 57 = .ok (.iconst 1, 1) := by decide +kernel
theorem dX8_laysSums_58 : decode cX8_laysSums 58 = .ok (.invokevirtual 158, 3) := by decide +kernel
theorem dX8_laysSums_61 : decode cX8_laysSums 61 = .ok (.i2l, 1) := by decide +kernel
theorem dX8_laysSums_62 : decode cX8_laysSums 62 = .ok (.lastore, 1) := by decide +kernel
theorem dX8_laysSums_63 : decode cX8_laysSums 63 = .ok (.aload_n 0, 1) := by decide +kernel
theorem dX8_laysSums_64 : decode cX8_laysSums 64 = .ok (.getfield 71, 3) := by decide +kernel
theorem dX8_laysSums_67 : decode cX8_laysSums 67 = .ok (.iconst 3, 1) := by decide +kernel
theorem dX8_laysSums_68 : decode cX8_laysSums 68 = .ok (.iload_n 2, 1) := by decide +kernel
theorem dX8_laysSums_69 : decode cX8_laysSums 69 = .ok (.imul, 1) := by decide +kernel
theorem dX8_laysSums_70 : decode cX8_laysSums 70 = .ok (.iconst 2, 1) := by decide +kernel
theorem dX8_laysSums_71 : decode cX8_laysSums 71 = .ok (.iadd, 1) := by decide +kernel
theorem dX8_laysSums_72 : decode cX8_laysSums 72 = .ok (.aload_n 0, 1) := by decide +kernel
theorem dX8_laysSums_73 : decode cX8_laysSums 73 = .ok (.getfield 7, 3) := by decide +kernel
theorem dX8_laysSums_76 : decode cX8_laysSums 76 = .ok (.iload_n 3, 1) := by decide +kernel
theorem dX8_laysSums_77 : decode cX8_laysSums 77 = .ok (.iaload, 1) := by decide +kernel
theorem dX8_laysSums_78 : decode cX8_laysSums 78 = .ok (.i2l, 1) := by decide +kernel
theorem dX8_laysSums_79 : decode cX8_laysSums 79 = .ok (.aload_n 0, 1) := by decide +kernel
theorem dX8_laysSums_80 : decode cX8_laysSums 80 = .ok (.getfield 71, 3) := by decide +kernel
theorem dX8_laysSums_83 : decode cX8_laysSums 83 = .ok (.iconst 3, 1) := by decide +kernel
theorem dX8_laysSums_84 : decode cX8_laysSums 84 = .ok (.iload_n 2, 1) := by decide +kernel
theorem dX8_laysSums_85 : decode cX8_laysSums 85 = .ok (.imul, 1) := by decide +kernel
theorem dX8_laysSums_86 : decode cX8_laysSums 86 = .ok (.iconst 1, 1) := by decide +kernel
theorem dX8_laysSums_87 : decode cX8_laysSums 87 = .ok (.iadd, 1) := by decide +kernel
theorem dX8_laysSums_88 : decode cX8_laysSums 88 = .ok (.laload, 1) := by decide +kernel
theorem dX8_laysSums_89 : decode cX8_laysSums 89 = .ok (.lmul, 1) := by decide +kernel
theorem dX8_laysSums_90 : decode cX8_laysSums 90 = .ok (.aload_n 0, 1) := by decide +kernel
theorem dX8_laysSums_91 : decode cX8_laysSums 91 = .ok (.getfield 13, 3) := by decide +kernel
theorem dX8_laysSums_94 : decode cX8_laysSums 94 = .ok (.iload_n 3, 1) := by decide +kernel
theorem dX8_laysSums_95 : decode cX8_laysSums 95 = .ok (.iaload, 1) := by decide +kernel
theorem dX8_laysSums_96 : decode cX8_laysSums 96 = .ok (.i2l, 1) := by decide +kernel
theorem dX8_laysSums_97 : decode cX8_laysSums 97 = .ok (.aload_n 0, 1) := by decide +kernel
theorem dX8_laysSums_98 : decode cX8_laysSums 98 = .ok (.getfield 71, 3) := by decide +kernel
theorem dX8_laysSums_101 : decode cX8_laysSums 101 = .ok (.iconst 3, 1) := by decide +kernel
theorem dX8_laysSums_102 : decode cX8_laysSums 102 = .ok (.iload_n 2, 1) := by decide +kernel
theorem dX8_laysSums_103 : decode cX8_laysSums 103 = .ok (.imul, 1) := by decide +kernel
theorem dX8_laysSums_104 : decode cX8_laysSums 104 = .ok (.laload, 1) := by decide +kernel
theorem dX8_laysSums_105 : decode cX8_laysSums 105 = .ok (.lmul, 1) := by decide +kernel
theorem dX8_laysSums_106 : decode cX8_laysSums 106 = .ok (.lsub, 1) := by decide +kernel
theorem dX8_laysSums_107 : decode cX8_laysSums 107 = .ok (.lastore, 1) := by decide +kernel
theorem dX8_laysSums_108 : decode cX8_laysSums 108 = .ok (.iinc 2 1, 3) := by decide +kernel
theorem dX8_laysSums_111 : decode cX8_laysSums 111 = .ok (.goto (-109), 3) := by decide +kernel
theorem dX8_laysSums_114 : decode cX8_laysSums 114 = .ok (.bipush 9, 2) := by decide +kernel
theorem dX8_laysSums_116 : decode cX8_laysSums 116 = .ok (.istore_n 2, 1) := by decide +kernel
theorem dX8_laysSums_117 : decode cX8_laysSums 117 = .ok (.iload_n 2, 1) := by decide +kernel
theorem dX8_laysSums_118 : decode cX8_laysSums 118 = .ok (.bipush 12, 2) := by decide +kernel
theorem dX8_laysSums_120 : decode cX8_laysSums 120 = .ok (.if_icmp .ge 16, 3) := by decide +kernel
theorem dX8_laysSums_123 : decode cX8_laysSums 123 = .ok (.aload_n 0, 1) := by decide +kernel
theorem dX8_laysSums_124 : decode cX8_laysSums 124 = .ok (.getfield 71, 3) := by decide +kernel
theorem dX8_laysSums_127 : decode cX8_laysSums 127 = .ok (.iload_n 2, 1) := by decide +kernel
theorem dX8_laysSums_128 : decode cX8_laysSums 128 = .ok (.lconst 0, 1) := by decide +kernel
theorem dX8_laysSums_129 : decode cX8_laysSums 129 = .ok (.lastore, 1) := by decide +kernel
theorem dX8_laysSums_130 : decode cX8_laysSums 130 = .ok (.iinc 2 1, 3) := by decide +kernel
theorem dX8_laysSums_133 : decode cX8_laysSums 133 = .ok (.goto (-16), 3) := by decide +kernel
theorem dX8_laysSums_136 : decode cX8_laysSums 136 = .ok (.iconst 0, 1) := by decide +kernel
theorem dX8_laysSums_137 : decode cX8_laysSums 137 = .ok (.istore_n 2, 1) := by decide +kernel
theorem dX8_laysSums_138 : decode cX8_laysSums 138 = .ok (.iload_n 2, 1) := by decide +kernel
theorem dX8_laysSums_139 : decode cX8_laysSums 139 = .ok (.aload_n 0, 1) := by decide +kernel
theorem dX8_laysSums_140 : decode cX8_laysSums 140 = .ok (.getfield 81, 3) := by decide +kernel
theorem dX8_laysSums_143 : decode cX8_laysSums 143 = .ok (.if_icmp .ge 101, 3) := by decide +kernel
theorem dX8_laysSums_146 : decode cX8_laysSums 146 = .ok (.iload_n 1, 1) := by decide +kernel
theorem dX8_laysSums_147 : decode cX8_laysSums 147 = .ok (.iload_n 2, 1) := by decide +kernel
theorem dX8_laysSums_148 : decode cX8_laysSums 148 = .ok (.invokestatic 113, 3) := by decide +kernel
theorem dX8_laysSums_151 : decode cX8_laysSums 151 = .ok (.ifCond .eq 87, 3) := by decide +kernel
theorem dX8_laysSums_154 : decode cX8_laysSums 154 = .ok (.aload_n 0, 1) := by decide +kernel
theorem dX8_laysSums_155 : decode cX8_laysSums 155 = .ok (.getfield 71, 3) := by decide +kernel
theorem dX8_laysSums_158 : decode cX8_laysSums 158 = .ok (.bipush 9, 2) := by decide +kernel
theorem dX8_laysSums_160 : decode cX8_laysSums 160 = .ok (.dup2, 1) := by decide +kernel
theorem dX8_laysSums_161 : decode cX8_laysSums 161 = .ok (.laload, 1) := by decide +kernel
theorem dX8_laysSums_162 : decode cX8_laysSums 162 = .ok (.aload_n 0, 1) := by decide +kernel
theorem dX8_laysSums_163 : decode cX8_laysSums 163 = .ok (.getfield 19, 3) := by decide +kernel
theorem dX8_laysSums_166 : decode cX8_laysSums 166 = .ok (.iconst 2, 1) := by decide +kernel
theorem dX8_laysSums_167 : decode cX8_laysSums 167 = .ok (.iload_n 2, 1) := by decide +kernel
theorem dX8_laysSums_168 : decode cX8_laysSums 168 = .ok (.imul, 1) := by decide +kernel
theorem dX8_laysSums_169 : decode cX8_laysSums 169 = .ok (.iaload, 1) := by decide +kernel
theorem dX8_laysSums_170 : decode cX8_laysSums 170 = .ok (.i2l, 1) := by decide +kernel
theorem dX8_laysSums_171 : decode cX8_laysSums 171 = .ok (.lsub, 1) := by decide +kernel
theorem dX8_laysSums_172 : decode cX8_laysSums 172 = .ok (.lastore, 1) := by decide +kernel
theorem dX8_laysSums_173 : decode cX8_laysSums 173 = .ok (.aload_n 0, 1) := by decide +kernel
theorem dX8_laysSums_174 : decode cX8_laysSums 174 = .ok (.getfield 71, 3) := by decide +kernel
theorem dX8_laysSums_177 : decode cX8_laysSums 177 = .ok (.bipush 10, 2) := by decide +kernel
theorem dX8_laysSums_179 : decode cX8_laysSums 179 = .ok (.dup2, 1) := by decide +kernel
theorem dX8_laysSums_180 : decode cX8_laysSums 180 = .ok (.laload, 1) := by decide +kernel
theorem dX8_laysSums_181 : decode cX8_laysSums 181 = .ok (.aload_n 0, 1) := by decide +kernel
theorem dX8_laysSums_182 : decode cX8_laysSums 182 = .ok (.getfield 19, 3) := by decide +kernel
theorem dX8_laysSums_185 : decode cX8_laysSums 185 = .ok (.iconst 2, 1) := by decide +kernel
theorem dX8_laysSums_186 : decode cX8_laysSums 186 = .ok (.iload_n 2, 1) := by decide +kernel
theorem dX8_laysSums_187 : decode cX8_laysSums 187 = .ok (.imul, 1) := by decide +kernel
theorem dX8_laysSums_188 : decode cX8_laysSums 188 = .ok (.iconst 1, 1) := by decide +kernel
theorem dX8_laysSums_189 : decode cX8_laysSums 189 = .ok (.iadd, 1) := by decide +kernel
theorem dX8_laysSums_190 : decode cX8_laysSums 190 = .ok (.iaload, 1) := by decide +kernel
theorem dX8_laysSums_191 : decode cX8_laysSums 191 = .ok (.i2l, 1) := by decide +kernel
theorem dX8_laysSums_192 : decode cX8_laysSums 192 = .ok (.lsub, 1) := by decide +kernel
theorem dX8_laysSums_193 : decode cX8_laysSums 193 = .ok (.lastore, 1) := by decide +kernel
theorem dX8_laysSums_194 : decode cX8_laysSums 194 = .ok (.aload_n 0, 1) := by decide +kernel
theorem dX8_laysSums_195 : decode cX8_laysSums 195 = .ok (.getfield 71, 3) := by decide +kernel
theorem dX8_laysSums_198 : decode cX8_laysSums 198 = .ok (.bipush 11, 2) := by decide +kernel
theorem dX8_laysSums_200 : decode cX8_laysSums 200 = .ok (.dup2, 1) := by decide +kernel
theorem dX8_laysSums_201 : decode cX8_laysSums 201 = .ok (.laload, 1) := by decide +kernel
theorem dX8_laysSums_202 : decode cX8_laysSums 202 = .ok (.aload_n 0, 1) := by decide +kernel
theorem dX8_laysSums_203 : decode cX8_laysSums 203 = .ok (.getfield 7, 3) := by decide +kernel
theorem dX8_laysSums_206 : decode cX8_laysSums 206 = .ok (.iload_n 2, 1) := by decide +kernel
theorem dX8_laysSums_207 : decode cX8_laysSums 207 = .ok (.iaload, 1) := by decide +kernel
theorem dX8_laysSums_208 : decode cX8_laysSums 208 = .ok (.aload_n 0, 1) := by decide +kernel
theorem dX8_laysSums_209 : decode cX8_laysSums 209 = .ok (.getfield 19, 3) := by decide +kernel
theorem dX8_laysSums_212 : decode cX8_laysSums 212 = .ok (.iconst 2, 1) := by decide +kernel
theorem dX8_laysSums_213 : decode cX8_laysSums 213 = .ok (.iload_n 2, 1) := by decide +kernel
theorem dX8_laysSums_214 : decode cX8_laysSums 214 = .ok (.imul, 1) := by decide +kernel
theorem dX8_laysSums_215 : decode cX8_laysSums 215 = .ok (.iconst 1, 1) := by decide +kernel
theorem dX8_laysSums_216 : decode cX8_laysSums 216 = .ok (.iadd, 1) := by decide +kernel
theorem dX8_laysSums_217 : decode cX8_laysSums 217 = .ok (.iaload, 1) := by decide +kernel
theorem dX8_laysSums_218 : decode cX8_laysSums 218 = .ok (.imul, 1) := by decide +kernel
theorem dX8_laysSums_219 : decode cX8_laysSums 219 = .ok (.aload_n 0, 1) := by decide +kernel
theorem dX8_laysSums_220 : decode cX8_laysSums 220 = .ok (.getfield 13, 3) := by decide +kernel
theorem dX8_laysSums_223 : decode cX8_laysSums 223 = .ok (.iload_n 2, 1) := by decide +kernel
theorem dX8_laysSums_224 : decode cX8_laysSums 224 = .ok (.iaload, 1) := by decide +kernel
theorem dX8_laysSums_225 : decode cX8_laysSums 225 = .ok (.aload_n 0, 1) := by decide +kernel
theorem dX8_laysSums_226 : decode cX8_laysSums 226 = .ok (.getfield 19, 3) := by decide +kernel
theorem dX8_laysSums_229 : decode cX8_laysSums 229 = .ok (.iconst 2, 1) := by decide +kernel
theorem dX8_laysSums_230 : decode cX8_laysSums 230 = .ok (.iload_n 2, 1) := by decide +kernel
theorem dX8_laysSums_231 : decode cX8_laysSums 231 = .ok (.imul, 1) := by decide +kernel
theorem dX8_laysSums_232 : decode cX8_laysSums 232 = .ok (.iaload, 1) := by decide +kernel
theorem dX8_laysSums_233 : decode cX8_laysSums 233 = .ok (.imul, 1) := by decide +kernel
theorem dX8_laysSums_234 : decode cX8_laysSums 234 = .ok (.isub, 1) := by decide +kernel
theorem dX8_laysSums_235 : decode cX8_laysSums 235 = .ok (.i2l, 1) := by decide +kernel
theorem dX8_laysSums_236 : decode cX8_laysSums 236 = .ok (.lsub, 1) := by decide +kernel
theorem dX8_laysSums_237 : decode cX8_laysSums 237 = .ok (.lastore, 1) := by decide +kernel
theorem dX8_laysSums_238 : decode cX8_laysSums 238 = .ok (.iinc 2 1, 3) := by decide +kernel
theorem dX8_laysSums_241 : decode cX8_laysSums 241 = .ok (.goto (-103), 3) := by decide +kernel
theorem dX8_laysSums_244 : decode cX8_laysSums 244 = .ok (.return_, 1) := by decide +kernel
set_option maxRecDepth 20000 in
theorem ggX8_cutBy_X8_determinant : GoodIn wsX8_cutBy wsX8_determinant := goodIn_r _ [7, 1, 8, 9, 10, 6, 11, 12, 13, 14, 15, 16, 17, 18, 19, 20, 21, 22, 23, 24, 25, 26, 27, 28, 29, 30, 31, 32, 33, 34, 35, 36, 37, 38, 39, 40, 41, 42, 43, 44, 45, 46] (by decide +kernel) (by decide +kernel)
set_option maxRecDepth 20000 in
theorem gX8_cutBy_X8_determinant : GoodIn wsX8_cutBy (wsV RX8 176 RX8 yX8_determinant wsX8_determinant) := goodIn_app (goodIn_of _ (by decide +kernel)) ggX8_cutBy_X8_determinant
theorem dX8_cutBy_0 : decode cX8_cutBy 0 = .ok (.iconst 0, 1) := by decide +kernel
theorem dX8_cutBy_1 : decode cX8_cutBy 1 = .ok (.istore_n 2, 1) := by decide +kernel
theorem dX8_cutBy_2 : decode cX8_cutBy 2 = .ok (.iload_n 2, 1) := by decide +kernel
theorem dX8_cutBy_3 : decode cX8_cutBy 3 = .ok (.iconst 3, 1) := by decide +kernel
theorem dX8_cutBy_4 : decode cX8_cutBy 4 = .ok (.if_icmp .ge 58, 3) := by decide +kernel
theorem dX8_cutBy_7 : decode cX8_cutBy 7 = .ok (.iload_n 2, 1) := by decide +kernel
theorem dX8_cutBy_8 : decode cX8_cutBy 8 = .ok (.iload_n 1, 1) := by decide +kernel
theorem dX8_cutBy_9 : decode cX8_cutBy 9 = .ok (.if_icmp .ne 7, 3) := by decide +kernel
theorem dX8_cutBy_12 : decode cX8_cutBy 12 = .ok (.iconst 3, 1) := by decide +kernel
theorem dX8_cutBy_13 : decode cX8_cutBy 13 = .ok (.goto 4, 3) := by decide +kernel
theorem dX8_cutBy_16 : decode cX8_cutBy 16 = .ok (.iload_n 2, 1) := by decide +kernel
theorem dX8_cutBy_17 : decode cX8_cutBy 17 = .ok (.istore_n 3, 1) := by decide +kernel
theorem dX8_cutBy_18 : decode cX8_cutBy 18 = .ok (.iconst 0, 1) := by decide +kernel
theorem dX8_cutBy_19 : decode cX8_cutBy 19 = .ok (.istore 4, 2) := by decide +kernel
theorem dX8_cutBy_21 : decode cX8_cutBy 21 = .ok (.iload 4, 2) := by decide +kernel
theorem dX8_cutBy_23 : decode cX8_cutBy 23 = .ok (.iconst 3, 1) := by decide +kernel
theorem dX8_cutBy_24 : decode cX8_cutBy 24 = .ok (.if_icmp .ge 32, 3) := by decide +kernel
theorem dX8_cutBy_27 : decode cX8_cutBy 27 = .ok (.aload_n 0, 1) := by decide +kernel
theorem dX8_cutBy_28 : decode cX8_cutBy 28 = .ok (.getfield 46, 3) := by decide +kernel
theorem dX8_cutBy_31 : decode cX8_cutBy 31 = .ok (.bipush 12, 2) := by decide +kernel
theorem dX8_cutBy_33 : decode cX8_cutBy 33 = .ok (.iload 4, 2) := by decide +kernel
theorem dX8_cutBy_35 : decode cX8_cutBy 35 = .ok (.imul, 1) := by decide +kernel
theorem dX8_cutBy_36 : decode cX8_cutBy 36 = .ok (.iload_n 2, 1) := by decide +kernel
theorem dX8_cutBy_37 : decode cX8_cutBy 37 = .ok (.iadd, 1) := by decide +kernel
theorem dX8_cutBy_38 : decode cX8_cutBy 38 = .ok (.aload_n 0, 1) := by decide +kernel
theorem dX8_cutBy_39 : decode cX8_cutBy 39 = .ok (.getfield 71, 3) := by decide +kernel
theorem dX8_cutBy_42 : decode cX8_cutBy 42 = .ok (.iconst 3, 1) := by decide +kernel
theorem dX8_cutBy_43 : decode cX8_cutBy 43 = .ok (.iload_n 3, 1) := by decide +kernel
theorem dX8_cutBy_44 : decode cX8_cutBy 44 = .ok (.imul, 1) := by decide +kernel
theorem dX8_cutBy_45 : decode cX8_cutBy 45 = .ok (.iload 4, 2) := by decide +kernel
theorem dX8_cutBy_47 : decode cX8_cutBy 47 = .ok (.iadd, 1) := by decide +kernel
theorem dX8_cutBy_48 : decode cX8_cutBy 48 = .ok (.laload, 1) := by decide +kernel
theorem dX8_cutBy_49 : decode cX8_cutBy 49 = .ok (.lastore, 1) := by decide +kernel
theorem dX8_cutBy_50 : decode cX8_cutBy 50 = .ok (.iinc 4 1, 3) := by decide +kernel
theorem dX8_cutBy_53 : decode cX8_cutBy 53 = .ok (.goto (-32), 3) := by decide +kernel
theorem dX8_cutBy_56 : decode cX8_cutBy 56 = .ok (.iinc 2 1, 3) := by decide +kernel
theorem dX8_cutBy_59 : decode cX8_cutBy 59 = .ok (.goto (-57), 3) := by decide +kernel
theorem dX8_cutBy_62 : decode cX8_cutBy 62 = .ok (.aload_n 0, 1) := by decide +kernel
theorem dX8_cutBy_63 : decode cX8_cutBy 63 = .ok (.iconst 3, 1) := by decide +kernel
theorem dX8_cutBy_64 : decode cX8_cutBy 64 = .ok (.invokevirtual 176, 3) := by decide +kernel
theorem dX8_cutBy_67 : decode cX8_cutBy 67 = .ok (.lreturn, 1) := by decide +kernel
set_option maxRecDepth 20000 in
theorem ggX8_cut_X8_cuts : GoodIn wsX8_cut wsX8_cuts := goodIn_r _ [7, 8, 9, 10, 2, 11, 12, 13, 6, 14, 15, 16, 17, 18, 19, 20, 21, 22, 23, 59, 60, 61, 62, 63, 64, 65, 66, 67, 68, 69, 70, 71, 72, 73, 74, 75, 76, 77, 78, 79, 80, 81, 82, 83, 84, 85, 86, 87, 88, 89, 90, 91, 92, 93] (by decide +kernel) (by decide +kernel)
set_option maxRecDepth 20000 in
theorem gX8_cut_X8_cuts : GoodIn wsX8_cut (wsV RX8 236 RX8 yX8_cuts wsX8_cuts) := goodIn_app (goodIn_of _ (by decide +kernel)) ggX8_cut_X8_cuts
set_option maxRecDepth 20000 in
theorem ggX8_cut_X8_laysSums : GoodIn wsX8_cut wsX8_laysSums := goodIn_r _ [27, 2, 28, 29, 30, 8, 31, 18, 19, 20, 6, 21, 22, 23, 15, 16, 17, 32, 33, 34, 35, 59, 60, 61, 62, 63, 64, 65, 66, 67, 68, 69, 70, 71, 72, 73, 74, 75, 76, 77, 78, 79, 80, 81, 82, 83, 84, 85, 86, 87, 88, 89, 90, 91, 92, 93] (by decide +kernel) (by decide +kernel)
set_option maxRecDepth 20000 in
theorem gX8_cut_X8_laysSums : GoodIn wsX8_cut (wsV RX8 239 RX8 yX8_laysSums wsX8_laysSums) := goodIn_app (goodIn_of _ (by decide +kernel)) ggX8_cut_X8_laysSums
set_option maxRecDepth 20000 in
theorem ggX8_cut_X8_cutBy : GoodIn wsX8_cut wsX8_cutBy := goodIn_r _ [39, 40, 28, 41, 42, 43, 6, 44, 45, 46, 47, 48, 59, 60, 61, 62, 63, 64, 65, 66, 67, 68, 69, 70, 71, 72, 73, 74, 75, 76, 77, 78, 79, 80, 81, 82, 83, 84, 85, 86, 87, 88, 89, 90, 91, 92, 93] (by decide +kernel) (by decide +kernel)
set_option maxRecDepth 20000 in
theorem gX8_cut_X8_cutBy : GoodIn wsX8_cut (wsV RX8 242 RX8 yX8_cutBy wsX8_cutBy) := goodIn_app (goodIn_of _ (by decide +kernel)) ggX8_cut_X8_cutBy
set_option maxRecDepth 20000 in
theorem ggX8_cut_X8_told : GoodIn wsX8_cut wsX8_told := goodIn_r _ [51, 52, 53, 54, 6, 55, 56, 57, 58] (by decide +kernel) (by decide +kernel)
set_option maxRecDepth 20000 in
theorem gX8_cut_X8_told : GoodIn wsX8_cut (va_wsS RX8 209 yX8_told wsX8_told) := goodIn_app (goodIn_of _ (by decide +kernel)) ggX8_cut_X8_told
theorem dX8_cut_0 : decode cX8_cut 0 = .ok (.aload_n 0, 1) := by decide +kernel
theorem dX8_cut_1 : decode cX8_cut 1 = .ok (.iconst 1, 1) := by decide +kernel
theorem dX8_cut_2 : decode cX8_cut 2 = .ok (.putfield 77, 3) := by decide +kernel
theorem dX8_cut_5 : decode cX8_cut 5 = .ok (.aload_n 0, 1) := by decide +kernel
theorem dX8_cut_6 : decode cX8_cut 6 = .ok (.iload_n 1, 1) := by decide +kernel
theorem dX8_cut_7 : decode cX8_cut 7 = .ok (.invokevirtual 236, 3) := by decide +kernel
theorem dX8_cut_10 : decode cX8_cut 10 = .ok (.ifCond .ne 5, 3) := by decide +kernel
theorem dX8_cut_13 : decode cX8_cut 13 = .ok (.lconst 0, 1) := by decide +kernel
theorem dX8_cut_14 : decode cX8_cut 14 = .ok (.lreturn, 1) := by decide +kernel
theorem dX8_cut_15 : decode cX8_cut 15 = .ok (.aload_n 0, 1) := by decide +kernel
theorem dX8_cut_16 : decode cX8_cut 16 = .ok (.iload_n 1, 1) := by decide +kernel
theorem dX8_cut_17 : decode cX8_cut 17 = .ok (.invokevirtual 239, 3) := by decide +kernel
theorem dX8_cut_20 : decode cX8_cut 20 = .ok (.aload_n 0, 1) := by decide +kernel
theorem dX8_cut_21 : decode cX8_cut 21 = .ok (.iconst (-1), 1) := by decide +kernel
theorem dX8_cut_22 : decode cX8_cut 22 = .ok (.invokevirtual 242, 3) := by decide +kernel
theorem dX8_cut_25 : decode cX8_cut 25 = .ok (.lstore 4, 2) := by decide +kernel
theorem dX8_cut_27 : decode cX8_cut 27 = .ok (.iconst 0, 1) := by decide +kernel
theorem dX8_cut_28 : decode cX8_cut 28 = .ok (.istore 6, 2) := by decide +kernel
theorem dX8_cut_30 : decode cX8_cut 30 = .ok (.iload 6, 2) := by decide +kernel
theorem dX8_cut_32 : decode cX8_cut 32 = .ok (.iconst 3, 1) := by decide +kernel
theorem dX8_cut_33 : decode cX8_cut 33 = .ok (.if_icmp .ge 45, 3) := by decide +kernel
theorem dX8_cut_36 : decode cX8_cut 36 = .ok (.lload 4, 2) := by decide +kernel
theorem dX8_cut_38 : decode cX8_cut 38 = .ok (.lconst 0, 1) := by decide +kernel
theorem dX8_cut_39 : decode cX8_cut 39 = .ok (.lcmp, 1) := by decide +kernel
theorem dX8_cut_40 : decode cX8_cut 40 = .ok (.ifCond .eq 38, 3) := by decide +kernel
theorem dX8_cut_43 : decode cX8_cut 43 = .ok (.aload_n 0, 1) := by decide +kernel
theorem dX8_cut_44 : decode cX8_cut 44 = .ok (.getfield 68, 3) := by decide +kernel
theorem dX8_cut_47 : decode cX8_cut 47 = .ok (.iload 6, 2) := by decide +kernel
theorem dX8_cut_49 : decode cX8_cut 49 = .ok (.iaload, 1) := by decide +kernel
theorem dX8_cut_50 : decode cX8_cut 50 = .ok (.iload_n 2, 1) := by decide +kernel
theorem dX8_cut_51 : decode cX8_cut 51 = .ok (.if_icmp .ne 21, 3) := by decide +kernel
theorem dX8_cut_54 : decode cX8_cut 54 = .ok (.aload_n 0, 1) := by decide +kernel
theorem dX8_cut_55 : decode cX8_cut 55 = .ok (.iconst 0, 1) := by decide +kernel
theorem dX8_cut_56 : decode cX8_cut 56 = .ok (.putfield 77, 3) := by decide +kernel
theorem dX8_cut_59 : decode cX8_cut 59 = .ok (.aload_n 0, 1) := by decide +kernel
theorem dX8_cut_60 : decode cX8_cut 60 = .ok (.iload 6, 2) := by decide +kernel
theorem dX8_cut_62 : decode cX8_cut 62 = .ok (.invokevirtual 242, 3) := by decide +kernel
theorem dX8_cut_65 : decode cX8_cut 65 = .ok (.lload 4, 2) := by decide +kernel
theorem dX8_cut_67 : decode cX8_cut 67 = .ok (.iload_n 3, 1) := by decide +kernel
theorem dX8_cut_68 : decode cX8_cut 68 = .ok (.invokestatic 209, 3) := by decide +kernel
theorem dX8_cut_71 : decode cX8_cut 71 = .ok (.lreturn, 1) := by decide +kernel
theorem dX8_cut_72 : decode cX8_cut 72 = .ok (.iinc 6 1, 3) := by decide +kernel
theorem dX8_cut_75 : decode cX8_cut 75 = .ok (.goto (-45), 3) := by decide +kernel
theorem dX8_cut_78 : decode cX8_cut 78 = .ok (.lconst 0, 1) := by decide +kernel
theorem dX8_cut_79 : decode cX8_cut 79 = .ok (.lreturn, 1) := by decide +kernel
set_option maxRecDepth 20000 in
theorem ggX8_toldAt_X8_isOn : GoodIn wsX8_toldAt wsX8_isOn := goodIn_r _ [10] (by decide +kernel) (by decide +kernel)
set_option maxRecDepth 20000 in
theorem gX8_toldAt_X8_isOn : GoodIn wsX8_toldAt (va_wsS RX8 113 yX8_isOn wsX8_isOn) := goodIn_app (goodIn_of _ (by decide +kernel)) ggX8_toldAt_X8_isOn
set_option maxRecDepth 20000 in
theorem ggX8_toldAt_X8_bits : GoodIn wsX8_toldAt wsX8_bits := goodIn_r _ [13] (by decide +kernel) (by decide +kernel)
set_option maxRecDepth 20000 in
theorem gX8_toldAt_X8_bits : GoodIn wsX8_toldAt (va_wsS RX8 165 yX8_bits wsX8_bits) := goodIn_app (goodIn_of _ (by decide +kernel)) ggX8_toldAt_X8_bits
set_option maxRecDepth 20000 in
theorem ggX8_toldAt_X8_brings : GoodIn wsX8_toldAt wsX8_brings := goodIn_r _ [17, 4, 5, 18, 19, 20, 21, 22, 23, 24, 25, 26, 27, 28, 29, 30, 31, 32, 33, 34, 35, 36, 37, 38, 39, 40, 41, 42, 43, 44, 45, 46, 47, 48, 49, 50, 51, 52, 53, 54] (by decide +kernel) (by decide +kernel)
set_option maxRecDepth 20000 in
theorem gX8_toldAt_X8_brings : GoodIn wsX8_toldAt (wsV RX8 158 RX8 yX8_brings wsX8_brings) := goodIn_app (goodIn_of _ (by decide +kernel)) ggX8_toldAt_X8_brings
theorem dX8_toldAt_0 : decode cX8_toldAt 0 = .ok (.iconst 0, 1) := by decide +kernel
theorem dX8_toldAt_1 : decode cX8_toldAt 1 = .ok (.istore_n 2, 1) := by decide +kernel
theorem dX8_toldAt_2 : decode cX8_toldAt 2 = .ok (.iconst 0, 1) := by decide +kernel
theorem dX8_toldAt_3 : decode cX8_toldAt 3 = .ok (.istore_n 3, 1) := by decide +kernel
theorem dX8_toldAt_4 : decode cX8_toldAt 4 = .ok (.iload_n 3, 1) := by decide +kernel
theorem dX8_toldAt_5 : decode cX8_toldAt 5 = .ok (.aload_n 0, 1) := by decide +kernel
theorem dX8_toldAt_6 : decode cX8_toldAt 6 = .ok (.getfield 88, 3) := by decide +kernel
theorem dX8_toldAt_9 : decode cX8_toldAt 9 = .ok (.if_icmp .ge 57, 3) := by decide +kernel
theorem dX8_toldAt_12 : decode cX8_toldAt 12 = .ok (.iload_n 2, 1) := by decide +kernel
theorem dX8_toldAt_13 : decode cX8_toldAt 13 = .ok (.aload_n 0, 1) := by decide +kernel
theorem dX8_toldAt_14 : decode cX8_toldAt 14 = .ok (.getfield 107, 3) := by decide +kernel
theorem dX8_toldAt_17 : decode cX8_toldAt 17 = .ok (.aload_n 0, 1) := by decide +kernel
theorem dX8_toldAt_18 : decode cX8_toldAt 18 = .ok (.getfield 245, 3) := by decide +kernel
theorem dX8_toldAt_21 : decode cX8_toldAt 21 = .ok (.iconst (-1), 1) := by decide +kernel
theorem dX8_toldAt_22 : decode cX8_toldAt 22 = .ok (.ixor, 1) := by decide +kernel
theorem dX8_toldAt_23 : decode cX8_toldAt 23 = .ok (.iand, 1) := by decide +kernel
theorem dX8_toldAt_24 : decode cX8_toldAt 24 = .ok (.iload_n 3, 1) := by decide +kernel
theorem dX8_toldAt_25 : decode cX8_toldAt 25 = .ok (.invokestatic 113, 3) := by decide +kernel
theorem dX8_toldAt_28 : decode cX8_toldAt 28 = .ok (.ifCond .eq 29, 3) := by decide +kernel
theorem dX8_toldAt_31 : decode cX8_toldAt 31 = .ok (.aload_n 0, 1) := by decide +kernel
theorem dX8_toldAt_32 : decode cX8_toldAt 32 = .ok (.getfield 22, 3) := by decide +kernel
theorem dX8_toldAt_35 : decode cX8_toldAt 35 = .ok (.iload_n 3, 1) := by decide +kernel
theorem dX8_toldAt_36 : decode cX8_toldAt 36 = .ok (.iaload, 1) := by decide +kernel
theorem dX8_toldAt_37 : decode cX8_toldAt 37 = .ok (.iload_n 1, 1) := by decide +kernel
theorem dX8_toldAt_38 : decode cX8_toldAt 38 = .ok (.if_icmp .eq 13, 3) := by decide +kernel
theorem dX8_toldAt_41 : decode cX8_toldAt 41 = .ok (.aload_n 0, 1) := by decide +kernel
theorem dX8_toldAt_42 : decode cX8_toldAt 42 = .ok (.getfield 25, 3) := by decide +kernel
theorem dX8_toldAt_45 : decode cX8_toldAt 45 = .ok (.iload_n 3, 1) := by decide +kernel
theorem dX8_toldAt_46 : decode cX8_toldAt 46 = .ok (.iaload, 1) := by decide +kernel
theorem dX8_toldAt_47 : decode cX8_toldAt 47 = .ok (.iload_n 1, 1) := by decide +kernel
theorem dX8_toldAt_48 : decode cX8_toldAt 48 = .ok (.if_icmp .ne 9, 3) := by decide +kernel
theorem dX8_toldAt_51 : decode cX8_toldAt 51 = .ok (.iconst 1, 1) := by decide +kernel
theorem dX8_toldAt_52 : decode cX8_toldAt 52 = .ok (.iload_n 3, 1) := by decide +kernel
theorem dX8_toldAt_53 : decode cX8_toldAt 53 = .ok (.ishl, 1) := by decide +kernel
theorem dX8_toldAt_54 : decode cX8_toldAt 54 = .ok (.goto 4, 3) := by decide +kernel
theorem dX8_toldAt_57 : decode cX8_toldAt 57 = .ok (.iconst 0, 1) := by decide +kernel
theorem dX8_toldAt_58 : decode cX8_toldAt 58 = .ok (.ior, 1) := by decide +kernel
theorem dX8_toldAt_59 : decode cX8_toldAt 59 = .ok (.istore_n 2, 1) := by decide +kernel
theorem dX8_toldAt_60 : decode cX8_toldAt 60 = .ok (.iinc 3 1, 3) := by decide +kernel
theorem dX8_toldAt_63 : decode cX8_toldAt 63 = .ok (.goto (-59), 3) := by decide +kernel
theorem dX8_toldAt_66 : decode cX8_toldAt 66 = .ok (.iload_n 2, 1) := by decide +kernel
theorem dX8_toldAt_67 : decode cX8_toldAt 67 = .ok (.invokestatic 165, 3) := by decide +kernel
theorem dX8_toldAt_70 : decode cX8_toldAt 70 = .ok (.iconst 1, 1) := by decide +kernel
theorem dX8_toldAt_71 : decode cX8_toldAt 71 = .ok (.if_icmp .ne 83, 3) := by decide +kernel
theorem dX8_toldAt_74 : decode cX8_toldAt 74 = .ok (.iconst 0, 1) := by decide +kernel
theorem dX8_toldAt_75 : decode cX8_toldAt 75 = .ok (.istore_n 3, 1) := by decide +kernel
theorem dX8_toldAt_76 : decode cX8_toldAt 76 = .ok (.iload_n 2, 1) := by decide +kernel
theorem dX8_toldAt_77 : decode cX8_toldAt 77 = .ok (.iload_n 3, 1) := by decide +kernel
theorem dX8_toldAt_78 : decode cX8_toldAt 78 = .ok (.invokestatic 113, 3) := by decide +kernel
theorem dX8_toldAt_81 : decode cX8_toldAt 81 = .ok (.ifCond .ne 9, 3) := by decide +kernel
theorem dX8_toldAt_84 : decode cX8_toldAt 84 = .ok (.iinc 3 1, 3) := by decide +kernel
theorem dX8_toldAt_87 : decode cX8_toldAt 87 = .ok (.goto (-11), 3) := by decide +kernel
theorem dX8_toldAt_90 : decode cX8_toldAt 90 = .ok (.aload_n 0, 1) := by decide +kernel
theorem dX8_toldAt_91 : decode cX8_toldAt 91 = .ok (.getfield 16, 3) := by decide +kernel
theorem dX8_toldAt_94 : decode cX8_toldAt 94 = .ok (.iload_n 1, 1) := by decide +kernel
theorem dX8_toldAt_95 : decode cX8_toldAt 95 = .ok (.iaload, 1) := by decide +kernel
theorem dX8_toldAt_96 : decode cX8_toldAt 96 = .ok (.iconst 0, 1) := by decide +kernel
theorem dX8_toldAt_97 : decode cX8_toldAt 97 = .ok (.invokestatic 113, 3) := by decide +kernel
theorem dX8_toldAt_100 : decode cX8_toldAt 100 = .ok (.ifCond .ne 13, 3) := by decide +kernel
theorem dX8_toldAt_103 : decode cX8_toldAt 103 = .ok (.aload_n 0, 1) := by decide +kernel
theorem dX8_toldAt_104 : decode cX8_toldAt 104 = .ok (.iload_n 3, 1) := by decide +kernel
theorem dX8_toldAt_105 : decode cX8_toldAt 105 = .ok (.iload_n 1, 1) := by decide +kernel
theorem dX8_toldAt_106 : decode cX8_toldAt 106 = .ok (.iconst 0, 1) := by decide +kernel
theorem dX8_toldAt_107 : decode cX8_toldAt 107 = .ok (.invokevirtual 158, 3) := by decide +kernel
theorem dX8_toldAt_110 : decode cX8_toldAt 110 = .ok (.ifCond .ne 26, 3) := by decide +kernel
theorem dX8_toldAt_113 : decode cX8_toldAt 113 = .ok (.aload_n 0, 1) := by decide +kernel
theorem dX8_toldAt_114 : decode cX8_toldAt 114 = .ok (.getfield 16, 3) := by decide +kernel
theorem dX8_toldAt_117 : decode cX8_toldAt 117 = .ok (.iload_n 1, 1) := by decide +kernel
theorem dX8_toldAt_118 : decode cX8_toldAt 118 = .ok (.iaload, 1) := by decide +kernel
theorem dX8_toldAt_119 : decode cX8_toldAt 119 = .ok (.iconst 1, 1) := by decide +kernel
theorem dX8_toldAt_120 : decode cX8_toldAt 120 = .ok (.invokestatic 113, 3) := by decide +kernel
theorem dX8_toldAt_123 : decode cX8_toldAt 123 = .ok (.ifCond .ne 17, 3) := by decide +kernel
theorem dX8_toldAt_126 : decode cX8_toldAt 126 = .ok (.aload_n 0, 1) := by decide +kernel
theorem dX8_toldAt_127 : decode cX8_toldAt 127 = .ok (.iload_n 3, 1) := by decide +kernel
theorem dX8_toldAt_128 : decode cX8_toldAt 128 = .ok (.iload_n 1, 1) := by decide +kernel
theorem dX8_toldAt_129 : decode cX8_toldAt 129 = .ok (.iconst 1, 1) := by decide +kernel
theorem dX8_toldAt_130 : decode cX8_toldAt 130 = .ok (.invokevirtual 158, 3) := by decide +kernel
theorem dX8_toldAt_133 : decode cX8_toldAt 133 = .ok (.ifCond .eq 7, 3) := by decide +kernel
theorem dX8_toldAt_136 : decode cX8_toldAt 136 = .ok (.iconst 1, 1) := by decide +kernel
theorem dX8_toldAt_137 : decode cX8_toldAt 137 = .ok (.goto 4, 3) := by decide +kernel
theorem dX8_toldAt_140 : decode cX8_toldAt 140 = .ok (.iconst 0, 1) := by decide +kernel
theorem dX8_toldAt_141 : decode cX8_toldAt 141 = .ok (.istore 4, 2) := by decide +kernel
theorem dX8_toldAt_143 : decode cX8_toldAt 143 = .ok (.iload 4, 2) := by decide +kernel
theorem dX8_toldAt_145 : decode cX8_toldAt 145 = .ok (.ifCond .eq 7, 3) := by decide +kernel
theorem dX8_toldAt_148 : decode cX8_toldAt 148 = .ok (.iload_n 2, 1) := by decide +kernel
theorem dX8_toldAt_149 : decode cX8_toldAt 149 = .ok (.goto 4, 3) := by decide +kernel
theorem dX8_toldAt_152 : decode cX8_toldAt 152 = .ok (.iconst 0, 1) := by decide +kernel
theorem dX8_toldAt_153 : decode cX8_toldAt 153 = .ok (.ireturn, 1) := by decide +kernel
theorem dX8_toldAt_154 : decode cX8_toldAt 154 = .ok (.iload_n 2, 1) := by decide +kernel
theorem dX8_toldAt_155 : decode cX8_toldAt 155 = .ok (.invokestatic 165, 3) := by decide +kernel
theorem dX8_toldAt_158 : decode cX8_toldAt 158 = .ok (.iconst 2, 1) := by decide +kernel
theorem dX8_toldAt_159 : decode cX8_toldAt 159 = .ok (.if_icmp .ne 12, 3) := by decide +kernel
theorem dX8_toldAt_162 : decode cX8_toldAt 162 = .ok (.aload_n 0, 1) := by decide +kernel
theorem dX8_toldAt_163 : decode cX8_toldAt 163 = .ok (.getfield 16, 3) := by decide +kernel
theorem dX8_toldAt_166 : decode cX8_toldAt 166 = .ok (.iload_n 1, 1) := by decide +kernel
theorem dX8_toldAt_167 : decode cX8_toldAt 167 = .ok (.iaload, 1) := by decide +kernel
theorem dX8_toldAt_168 : decode cX8_toldAt 168 = .ok (.ifCond .eq 5, 3) := by decide +kernel
theorem dX8_toldAt_171 : decode cX8_toldAt 171 = .ok (.iconst 0, 1) := by decide +kernel
theorem dX8_toldAt_172 : decode cX8_toldAt 172 = .ok (.ireturn, 1) := by decide +kernel
theorem dX8_toldAt_173 : decode cX8_toldAt 173 = .ok (.iconst 0, 1) := by decide +kernel
theorem dX8_toldAt_174 : decode cX8_toldAt 174 = .ok (.istore_n 3, 1) := by decide +kernel
theorem dX8_toldAt_175 : decode cX8_toldAt 175 = .ok (.iload_n 2, 1) := by decide +kernel
theorem dX8_toldAt_176 : decode cX8_toldAt 176 = .ok (.iload_n 3, 1) := by decide +kernel
theorem dX8_toldAt_177 : decode cX8_toldAt 177 = .ok (.invokestatic 113, 3) := by decide +kernel
theorem dX8_toldAt_180 : decode cX8_toldAt 180 = .ok (.ifCond .ne 9, 3) := by decide +kernel
theorem dX8_toldAt_183 : decode cX8_toldAt 183 = .ok (.iinc 3 1, 3) := by decide +kernel
theorem dX8_toldAt_186 : decode cX8_toldAt 186 = .ok (.goto (-11), 3) := by decide +kernel
theorem dX8_toldAt_189 : decode cX8_toldAt 189 = .ok (.iload_n 3, 1) := by decide +kernel
theorem dX8_toldAt_190 : decode cX8_toldAt 190 = .ok (.iconst 1, 1) := by decide +kernel
theorem dX8_toldAt_191 : decode cX8_toldAt 191 = .ok (.iadd, 1) := by decide +kernel
theorem dX8_toldAt_192 : decode cX8_toldAt 192 = .ok (.istore 4, 2) := by decide +kernel
theorem dX8_toldAt_194 : decode cX8_toldAt 194 = .ok (.iload_n 2, 1) := by decide +kernel
theorem dX8_toldAt_195 : decode cX8_toldAt 195 = .ok (.iload 4, 2) := by decide +kernel
theorem dX8_toldAt_197 : decode cX8_toldAt 197 = .ok (.invokestatic 113, 3) := by decide +kernel
theorem dX8_toldAt_200 : decode cX8_toldAt 200 = .ok (.ifCond .ne 9, 3) := by decide +kernel
theorem dX8_toldAt_203 : decode cX8_toldAt 203 = .ok (.iinc 4 1, 3) := by decide +kernel
theorem dX8_toldAt_206 : decode cX8_toldAt 206 = .ok (.goto (-12), 3) := by decide +kernel
theorem dX8_toldAt_209 : decode cX8_toldAt 209 = .ok (.aload_n 0, 1) := by decide +kernel
theorem dX8_toldAt_210 : decode cX8_toldAt 210 = .ok (.iload_n 3, 1) := by decide +kernel
theorem dX8_toldAt_211 : decode cX8_toldAt 211 = .ok (.iload_n 1, 1) := by decide +kernel
theorem dX8_toldAt_212 : decode cX8_toldAt 212 = .ok (.iconst 0, 1) := by decide +kernel
theorem dX8_toldAt_213 : decode cX8_toldAt 213 = .ok (.invokevirtual 158, 3) := by decide +kernel
theorem dX8_toldAt_216 : decode cX8_toldAt 216 = .ok (.aload_n 0, 1) := by decide +kernel
theorem dX8_toldAt_217 : decode cX8_toldAt 217 = .ok (.iload 4, 2) := by decide +kernel
theorem dX8_toldAt_219 : decode cX8_toldAt 219 = .ok (.iload_n 1, 1) := by decide +kernel
theorem dX8_toldAt_220 : decode cX8_toldAt 220 = .ok (.iconst 1, 1) := by decide +kernel
theorem dX8_toldAt_221 : decode cX8_toldAt 221 = .ok (.invokevirtual 158, 3) := by decide +kernel
theorem dX8_toldAt_224 : decode cX8_toldAt 224 = .ok (.imul, 1) := by decide +kernel
theorem dX8_toldAt_225 : decode cX8_toldAt 225 = .ok (.aload_n 0, 1) := by decide +kernel
theorem dX8_toldAt_226 : decode cX8_toldAt 226 = .ok (.iload_n 3, 1) := by decide +kernel
theorem dX8_toldAt_227 : decode cX8_toldAt 227 = .ok (.iload_n 1, 1) := by decide +kernel
theorem dX8_toldAt_228 : decode cX8_toldAt 228 = .ok (.iconst 1, 1) := by decide +kernel
theorem dX8_toldAt_229 : decode cX8_toldAt 229 = .ok (.invokevirtual 158, 3) := by decide +kernel
theorem dX8_toldAt_232 : decode cX8_toldAt 232 = .ok (.aload_n 0, 1) := by decide +kernel
theorem dX8_toldAt_233 : decode cX8_toldAt 233 = .ok (.iload 4, 2) := by decide +kernel
theorem dX8_toldAt_235 : decode cX8_toldAt 235 = .ok (.iload_n 1, 1) := by decide +kernel
theorem dX8_toldAt_236 : decode cX8_toldAt 236 = .ok (.iconst 0, 1) := by decide +kernel
theorem dX8_toldAt_237 : decode cX8_toldAt 237 = .ok (.invokevirtual 158, 3) := by decide +kernel
theorem dX8_toldAt_240 : decode cX8_toldAt 240 = .ok (.imul, 1) := by decide +kernel
theorem dX8_toldAt_241 : decode cX8_toldAt 241 = .ok (.if_icmp .eq 7, 3) := by decide +kernel
theorem dX8_toldAt_244 : decode cX8_toldAt 244 = .ok (.iload_n 2, 1) := by decide +kernel
theorem dX8_toldAt_245 : decode cX8_toldAt 245 = .ok (.goto 4, 3) := by decide +kernel
theorem dX8_toldAt_248 : decode cX8_toldAt 248 = .ok (.iconst 0, 1) := by decide +kernel
theorem dX8_toldAt_249 : decode cX8_toldAt 249 = .ok (.ireturn, 1) := by decide +kernel
set_option maxRecDepth 20000 in
theorem ggX8_laysJoints_X8_isOn : GoodIn wsX8_laysJoints wsX8_isOn := goodIn_r _ [8] (by decide +kernel) (by decide +kernel)
set_option maxRecDepth 20000 in
theorem gX8_laysJoints_X8_isOn : GoodIn wsX8_laysJoints (va_wsS RX8 113 yX8_isOn wsX8_isOn) := goodIn_app (goodIn_of _ (by decide +kernel)) ggX8_laysJoints_X8_isOn
set_option maxRecDepth 20000 in
theorem ggX8_laysJoints_X8_toldAt : GoodIn wsX8_laysJoints wsX8_toldAt := goodIn_r _ [12, 13, 14, 1, 15, 16, 17, 5, 6, 7, 8, 18, 19, 20, 21, 22, 23, 24, 25, 26, 27, 28, 29, 30, 31, 32, 33, 34, 35, 36, 37, 38, 39, 40, 41, 42, 43, 44, 45, 46, 47, 48, 49, 50, 51, 52, 53, 54, 55, 56, 57, 58, 59, 60, 61] (by decide +kernel) (by decide +kernel)
set_option maxRecDepth 20000 in
theorem gX8_laysJoints_X8_toldAt : GoodIn wsX8_laysJoints (wsV RX8 251 RX8 yX8_toldAt wsX8_toldAt) := goodIn_app (goodIn_of _ (by decide +kernel)) ggX8_laysJoints_X8_toldAt
theorem dX8_laysJoints_0 : decode cX8_laysJoints 0 = .ok (.aload_n 0, 1) := by decide +kernel
theorem dX8_laysJoints_1 : decode cX8_laysJoints 1 = .ok (.iconst 0, 1) := by decide +kernel
theorem dX8_laysJoints_2 : decode cX8_laysJoints 2 = .ok (.putfield 245, 3) := by decide +kernel
theorem dX8_laysJoints_5 : decode cX8_laysJoints 5 = .ok (.aload_n 0, 1) := by decide +kernel
theorem dX8_laysJoints_6 : decode cX8_laysJoints 6 = .ok (.iconst 0, 1) := by decide +kernel
theorem dX8_laysJoints_7 : decode cX8_laysJoints 7 = .ok (.putfield 248, 3) := by decide +kernel
theorem dX8_laysJoints_10 : decode cX8_laysJoints 10 = .ok (.iconst 0, 1) := by decide +kernel
theorem dX8_laysJoints_11 : decode cX8_laysJoints 11 = .ok (.istore_n 1, 1) := by decide +kernel
theorem dX8_laysJoints_12 : decode cX8_laysJoints 12 = .ok (.iconst 0, 1) := by decide +kernel
theorem dX8_laysJoints_13 : decode cX8_laysJoints 13 = .ok (.istore_n 2, 1) := by decide +kernel
theorem dX8_laysJoints_14 : decode cX8_laysJoints 14 = .ok (.iload_n 2, 1) := by decide +kernel
theorem dX8_laysJoints_15 : decode cX8_laysJoints 15 = .ok (.aload_n 0, 1) := by decide +kernel
theorem dX8_laysJoints_16 : decode cX8_laysJoints 16 = .ok (.getfield 81, 3) := by decide +kernel
theorem dX8_laysJoints_19 : decode cX8_laysJoints 19 = .ok (.if_icmp .ge 72, 3) := by decide +kernel
theorem dX8_laysJoints_22 : decode cX8_laysJoints 22 = .ok (.iload_n 1, 1) := by decide +kernel
theorem dX8_laysJoints_23 : decode cX8_laysJoints 23 = .ok (.iload_n 2, 1) := by decide +kernel
theorem dX8_laysJoints_24 : decode cX8_laysJoints 24 = .ok (.invokestatic 113, 3) := by decide +kernel
theorem dX8_laysJoints_27 : decode cX8_laysJoints 27 = .ok (.ifCond .eq 7, 3) := by decide +kernel
theorem dX8_laysJoints_30 : decode cX8_laysJoints 30 = .ok (.iconst 0, 1) := by decide +kernel
theorem dX8_laysJoints_31 : decode cX8_laysJoints 31 = .ok (.goto 8, 3) := by decide +kernel
theorem dX8_laysJoints_34 : decode cX8_laysJoints 34 = .ok (.aload_n 0, 1) := by decide +kernel
theorem dX8_laysJoints_35 : decode cX8_laysJoints 35 = .ok (.iload_n 2, 1) := by decide +kernel
theorem dX8_laysJoints_36 : decode cX8_laysJoints 36 = .ok (.invokevirtual 251, 3) := by decide +kernel
theorem dX8_laysJoints_39 : decode cX8_laysJoints 39 = .ok (.istore_n 3, 1) := by decide +kernel
theorem dX8_laysJoints_40 : decode cX8_laysJoints 40 = .ok (.iload_n 3, 1) := by decide +kernel
theorem dX8_laysJoints_41 : decode cX8_laysJoints 41 = .ok (.ifCond .ne 9, 3) := by decide +kernel
theorem dX8_laysJoints_44 : decode cX8_laysJoints 44 = .ok (.iinc 2 1, 3) := by decide +kernel
theorem dX8_laysJoints_47 : decode cX8_laysJoints 47 = .ok (.goto (-33), 3) := by decide +kernel
theorem dX8_laysJoints_50 : decode cX8_laysJoints 50 = .ok (.aload_n 0, 1) := by decide +kernel
theorem dX8_laysJoints_51 : decode cX8_laysJoints 51 = .ok (.dup, 1) := by decide +kernel
theorem dX8_laysJoints_52 : decode cX8_laysJoints 52 = .ok (.getfield 245, 3) := by decide +kernel
theorem dX8_laysJoints_55 : decode cX8_laysJoints 55 = .ok (.iload_n 3, 1) := by decide +kernel
theorem dX8_laysJoints_56 : decode cX8_laysJoints 56 = .ok (.ior, 1) := by decide +kernel
theorem dX8_laysJoints_57 : decode cX8_laysJoints 57 = .ok (.putfield 245, 3) := by decide +kernel
theorem dX8_laysJoints_60 : decode cX8_laysJoints 60 = .ok (.iload_n 1, 1) := by decide +kernel
theorem dX8_laysJoints_61 : decode cX8_laysJoints 61 = .ok (.iconst 1, 1) := by decide +kernel
theorem dX8_laysJoints_62 : decode cX8_laysJoints 62 = .ok (.iload_n 2, 1) := by decide +kernel
theorem dX8_laysJoints_63 : decode cX8_laysJoints 63 = .ok (.ishl, 1) := by decide +kernel
theorem dX8_laysJoints_64 : decode cX8_laysJoints 64 = .ok (.ior, 1) := by decide +kernel
theorem dX8_laysJoints_65 : decode cX8_laysJoints 65 = .ok (.istore_n 1, 1) := by decide +kernel
theorem dX8_laysJoints_66 : decode cX8_laysJoints 66 = .ok (.aload_n 0, 1) := by decide +kernel
theorem dX8_laysJoints_67 : decode cX8_laysJoints 67 = .ok (.getfield 74, 3) := by decide +kernel
theorem dX8_laysJoints_70 : decode cX8_laysJoints 70 = .ok (.aload_n 0, 1) := by decide +kernel
theorem dX8_laysJoints_71 : decode cX8_laysJoints 71 = .ok (.getfield 248, 3) := by decide +kernel
theorem dX8_laysJoints_74 : decode cX8_laysJoints 74 = .ok (.iload_n 2, 1) := by decide +kernel
theorem dX8_laysJoints_75 : decode cX8_laysJoints 75 = .ok (.iastore, 1) := by decide +kernel
theorem dX8_laysJoints_76 : decode cX8_laysJoints 76 = .ok (.aload_n 0, 1) := by decide +kernel
theorem dX8_laysJoints_77 : decode cX8_laysJoints 77 = .ok (.dup, 1) := by decide +kernel
theorem dX8_laysJoints_78 : decode cX8_laysJoints 78 = .ok (.getfield 248, 3) := by decide +kernel
theorem dX8_laysJoints_81 : decode cX8_laysJoints 81 = .ok (.iconst 1, 1) := by decide +kernel
theorem dX8_laysJoints_82 : decode cX8_laysJoints 82 = .ok (.iadd, 1) := by decide +kernel
theorem dX8_laysJoints_83 : decode cX8_laysJoints 83 = .ok (.putfield 248, 3) := by decide +kernel
theorem dX8_laysJoints_86 : decode cX8_laysJoints 86 = .ok (.iconst 0, 1) := by decide +kernel
theorem dX8_laysJoints_87 : decode cX8_laysJoints 87 = .ok (.istore_n 2, 1) := by decide +kernel
theorem dX8_laysJoints_88 : decode cX8_laysJoints 88 = .ok (.goto (-74), 3) := by decide +kernel
theorem dX8_laysJoints_91 : decode cX8_laysJoints 91 = .ok (.return_, 1) := by decide +kernel
set_option maxRecDepth 20000 in
theorem ggX8_joint_X8_laysJoints : GoodIn wsX8_joint wsX8_laysJoints := goodIn_r _ [8, 9, 2, 10, 3, 11, 12, 7, 13, 14, 15, 16, 17, 18, 19, 20, 21, 22, 23, 24, 25, 26, 27, 28, 29, 30, 31, 35, 36, 37, 38, 39, 40, 41, 42, 43, 44, 45, 46, 47, 48, 49, 50, 51, 52, 53, 54, 55, 56, 57, 58, 59, 60, 61, 62, 63, 64, 65, 66, 67, 68, 69] (by decide +kernel) (by decide +kernel)
set_option maxRecDepth 20000 in
theorem gX8_joint_X8_laysJoints : GoodIn wsX8_joint (wsV RX8 254 RX8 yX8_laysJoints wsX8_laysJoints) := goodIn_app (goodIn_of _ (by decide +kernel)) ggX8_joint_X8_laysJoints
set_option maxRecDepth 20000 in
theorem ggX8_joint_X8_in : GoodIn wsX8_joint wsX8_in := goodIn_r _ [34] (by decide +kernel) (by decide +kernel)
set_option maxRecDepth 20000 in
theorem gX8_joint_X8_in : GoodIn wsX8_joint (va_wsS RX8 84 yX8_in wsX8_in) := goodIn_app (goodIn_of _ (by decide +kernel)) ggX8_joint_X8_in
theorem dX8_joint_0 : decode cX8_joint 0 = .ok (.aload_n 0, 1) := by decide +kernel
theorem dX8_joint_1 : decode cX8_joint 1 = .ok (.iconst 0, 1) := by decide +kernel
theorem dX8_joint_2 : decode cX8_joint 2 = .ok (.putfield 77, 3) := by decide +kernel
theorem dX8_joint_5 : decode cX8_joint 5 = .ok (.aload_n 0, 1) := by decide +kernel
theorem dX8_joint_6 : decode cX8_joint 6 = .ok (.invokevirtual 254, 3) := by decide +kernel
theorem dX8_joint_9 : decode cX8_joint 9 = .ok (.iload_n 1, 1) := by decide +kernel
theorem dX8_joint_10 : decode cX8_joint 10 = .ok (.i2l, 1) := by decide +kernel
theorem dX8_joint_11 : decode cX8_joint 11 = .ok (.lconst 0, 1) := by decide +kernel
theorem dX8_joint_12 : decode cX8_joint 12 = .ok (.aload_n 0, 1) := by decide +kernel
theorem dX8_joint_13 : decode cX8_joint 13 = .ok (.getfield 248, 3) := by decide +kernel
theorem dX8_joint_16 : decode cX8_joint 16 = .ok (.iconst 1, 1) := by decide +kernel
theorem dX8_joint_17 : decode cX8_joint 17 = .ok (.isub, 1) := by decide +kernel
theorem dX8_joint_18 : decode cX8_joint 18 = .ok (.i2l, 1) := by decide +kernel
theorem dX8_joint_19 : decode cX8_joint 19 = .ok (.invokestatic 84, 3) := by decide +kernel
theorem dX8_joint_22 : decode cX8_joint 22 = .ok (.ifCond .eq 12, 3) := by decide +kernel
theorem dX8_joint_25 : decode cX8_joint 25 = .ok (.aload_n 0, 1) := by decide +kernel
theorem dX8_joint_26 : decode cX8_joint 26 = .ok (.getfield 74, 3) := by decide +kernel
theorem dX8_joint_29 : decode cX8_joint 29 = .ok (.iload_n 1, 1) := by decide +kernel
theorem dX8_joint_30 : decode cX8_joint 30 = .ok (.iaload, 1) := by decide +kernel
theorem dX8_joint_31 : decode cX8_joint 31 = .ok (.goto 4, 3) := by decide +kernel
theorem dX8_joint_34 : decode cX8_joint 34 = .ok (.iconst (-1), 1) := by decide +kernel
theorem dX8_joint_35 : decode cX8_joint 35 = .ok (.ireturn, 1) := by decide +kernel
set_option maxRecDepth 20000 in
theorem ggX8_count_X8_kindOf : GoodIn wsX8_count wsX8_kindOf := goodIn_r _ [15, 16, 17, 18, 14, 19, 6, 7, 4, 5, 20, 21, 22, 23, 24, 25, 26, 3, 27, 28, 29, 30, 31, 32, 33, 34, 35, 36, 37, 38, 39, 40, 41, 42, 43, 44, 45, 46, 47, 48, 49, 50, 51, 52, 53, 54, 55, 56, 57, 58, 59, 70, 71, 72, 73, 74, 75, 76, 77, 78, 79, 80, 81, 82, 83, 84, 85, 86, 87, 88, 89, 90, 91, 92, 93, 94, 95, 96, 97, 98, 99, 100, 101, 102, 103, 104] (by decide +kernel) (by decide +kernel)
set_option maxRecDepth 20000 in
theorem gX8_count_X8_kindOf : GoodIn wsX8_count (wsV RX8 180 RX8 yX8_kindOf wsX8_kindOf) := goodIn_app (goodIn_of _ (by decide +kernel)) ggX8_count_X8_kindOf
set_option maxRecDepth 20000 in
theorem ggX8_count_X8_laysJoints : GoodIn wsX8_count wsX8_laysJoints := goodIn_r _ [63, 10, 64, 3, 65, 28, 29, 14, 30, 66, 67, 68, 69, 4, 2, 35, 36, 27, 57, 58, 59, 31, 32, 33, 34, 37, 38, 70, 71, 72, 73, 74, 75, 76, 77, 78, 79, 80, 81, 82, 83, 84, 85, 86, 87, 88, 89, 90, 91, 92, 93, 94, 95, 96, 97, 98, 99, 100, 101, 102, 103, 104] (by decide +kernel) (by decide +kernel)
set_option maxRecDepth 20000 in
theorem gX8_count_X8_laysJoints : GoodIn wsX8_count (wsV RX8 254 RX8 yX8_laysJoints wsX8_laysJoints) := goodIn_app (goodIn_of _ (by decide +kernel)) ggX8_count_X8_laysJoints
set_option maxRecDepth 20000 in
theorem ggX8_count_X8_bits : GoodIn wsX8_count wsX8_bits := goodIn_r _ [59] (by decide +kernel) (by decide +kernel)
set_option maxRecDepth 20000 in
theorem gX8_count_X8_bits : GoodIn wsX8_count (va_wsS RX8 165 yX8_bits wsX8_bits) := goodIn_app (goodIn_of _ (by decide +kernel)) ggX8_count_X8_bits
theorem dX8_count_0 : decode cX8_count 0 = .ok (.aload_n 0, 1) := by decide +kernel
theorem dX8_count_1 : decode cX8_count 1 = .ok (.iconst 0, 1) := by decide +kernel
theorem dX8_count_2 : decode cX8_count 2 = .ok (.putfield 77, 3) := by decide +kernel
theorem dX8_count_5 : decode cX8_count 5 = .ok (.aload_n 0, 1) := by decide +kernel
theorem dX8_count_6 : decode cX8_count 6 = .ok (.aload_n 0, 1) := by decide +kernel
theorem dX8_count_7 : decode cX8_count 7 = .ok (.getfield 107, 3) := by decide +kernel
theorem dX8_count_10 : decode cX8_count 10 = .ok (.invokevirtual 180, 3) := by decide +kernel
theorem dX8_count_13 : decode cX8_count 13 = .ok (.istore_n 2, 1) := by decide +kernel
theorem dX8_count_14 : decode cX8_count 14 = .ok (.aload_n 0, 1) := by decide +kernel
theorem dX8_count_15 : decode cX8_count 15 = .ok (.invokevirtual 254, 3) := by decide +kernel
theorem dX8_count_18 : decode cX8_count 18 = .ok (.iload_n 1, 1) := by decide +kernel
theorem dX8_count_19 : decode cX8_count 19 = .ok (.tableswitch 117 0 10 #[57, 62, 67, 72, 77, 79, 84, 89, 102, 107, 112], 57) := by decide +kernel
theorem dX8_count_76 : decode cX8_count 76 = .ok (.aload_n 0, 1) := by decide +kernel
theorem dX8_count_77 : decode cX8_count 77 = .ok (.getfield 81, 3) := by decide +kernel
theorem dX8_count_80 : decode cX8_count 80 = .ok (.ireturn, 1) := by decide +kernel
theorem dX8_count_81 : decode cX8_count 81 = .ok (.aload_n 0, 1) := by decide +kernel
theorem dX8_count_82 : decode cX8_count 82 = .ok (.getfield 88, 3) := by decide +kernel
theorem dX8_count_85 : decode cX8_count 85 = .ok (.ireturn, 1) := by decide +kernel
theorem dX8_count_86 : decode cX8_count 86 = .ok (.aload_n 0, 1) := by decide +kernel
theorem dX8_count_87 : decode cX8_count 87 = .ok (.getfield 107, 3) := by decide +kernel
theorem dX8_count_90 : decode cX8_count 90 = .ok (.ireturn, 1) := by decide +kernel
theorem dX8_count_91 : decode cX8_count 91 = .ok (.aload_n 0, 1) := by decide +kernel
theorem dX8_count_92 : decode cX8_count 92 = .ok (.getfield 130, 3) := by decide +kernel
theorem dX8_count_95 : decode cX8_count 95 = .ok (.ireturn, 1) := by decide +kernel
theorem dX8_count_96 : decode cX8_count 96 = .ok (.iload_n 2, 1) := by decide +kernel
theorem dX8_count_97 : decode cX8_count 97 = .ok (.ireturn, 1) := by decide +kernel
theorem dX8_count_98 : decode cX8_count 98 = .ok (.aload_n 0, 1) := by decide +kernel
theorem dX8_count_99 : decode cX8_count 99 = .ok (.getfield 152, 3) := by decide +kernel
theorem dX8_count_102 : decode cX8_count 102 = .ok (.ireturn, 1) := by decide +kernel
theorem dX8_count_103 : decode cX8_count 103 = .ok (.aload_n 0, 1) := by decide +kernel
theorem dX8_count_104 : decode cX8_count 104 = .ok (.getfield 155, 3) := by decide +kernel
theorem dX8_count_107 : decode cX8_count 107 = .ok (.ireturn, 1) := by decide +kernel
theorem dX8_count_108 : decode cX8_count 108 = .ok (.aload_n 0, 1) := by decide +kernel
theorem dX8_count_109 : decode cX8_count 109 = .ok (.getfield 130, 3) := by decide +kernel
theorem dX8_count_112 : decode cX8_count 112 = .ok (.aload_n 0, 1) := by decide +kernel
theorem dX8_count_113 : decode cX8_count 113 = .ok (.getfield 152, 3) := by decide +kernel
theorem dX8_count_116 : decode cX8_count 116 = .ok (.invokestatic 165, 3) := by decide +kernel
theorem dX8_count_119 : decode cX8_count 119 = .ok (.isub, 1) := by decide +kernel
theorem dX8_count_120 : decode cX8_count 120 = .ok (.ireturn, 1) := by decide +kernel
theorem dX8_count_121 : decode cX8_count 121 = .ok (.aload_n 0, 1) := by decide +kernel
theorem dX8_count_122 : decode cX8_count 122 = .ok (.getfield 122, 3) := by decide +kernel
theorem dX8_count_125 : decode cX8_count 125 = .ok (.ireturn, 1) := by decide +kernel
theorem dX8_count_126 : decode cX8_count 126 = .ok (.aload_n 0, 1) := by decide +kernel
theorem dX8_count_127 : decode cX8_count 127 = .ok (.getfield 127, 3) := by decide +kernel
theorem dX8_count_130 : decode cX8_count 130 = .ok (.ireturn, 1) := by decide +kernel
theorem dX8_count_131 : decode cX8_count 131 = .ok (.aload_n 0, 1) := by decide +kernel
theorem dX8_count_132 : decode cX8_count 132 = .ok (.getfield 245, 3) := by decide +kernel
theorem dX8_count_135 : decode cX8_count 135 = .ok (.ireturn, 1) := by decide +kernel
theorem dX8_count_136 : decode cX8_count 136 = .ok (.iconst (-1), 1) := by decide +kernel
theorem dX8_count_137 : decode cX8_count 137 = .ok (.ireturn, 1) := by decide +kernel
set_option maxRecDepth 20000 in
theorem ggX8_of_X8_isPin : GoodIn wsX8_of wsX8_isPin := goodIn_r _ [15, 16, 17, 18, 14, 19, 23, 24, 25, 26, 27, 28, 29, 30, 31, 32, 33, 34, 35, 36, 37, 38, 39, 40, 41, 42, 43, 44, 45, 46, 47, 48, 49, 50, 51, 52, 53, 54, 55, 56, 57] (by decide +kernel) (by decide +kernel)
set_option maxRecDepth 20000 in
theorem gX8_of_X8_isPin : GoodIn wsX8_of (wsV RX8 103 RX8 yX8_isPin wsX8_isPin) := goodIn_app (goodIn_of _ (by decide +kernel)) ggX8_of_X8_isPin
set_option maxRecDepth 20000 in
theorem ggX8_of_X8_in : GoodIn wsX8_of wsX8_in := goodIn_r _ [19] (by decide +kernel) (by decide +kernel)
set_option maxRecDepth 20000 in
theorem gX8_of_X8_in : GoodIn wsX8_of (va_wsS RX8 84 yX8_in wsX8_in) := goodIn_app (goodIn_of _ (by decide +kernel)) ggX8_of_X8_in
set_option maxRecDepth 20000 in
theorem ggX8_of_X8_isOn : GoodIn wsX8_of wsX8_isOn := goodIn_r _ [22] (by decide +kernel) (by decide +kernel)
set_option maxRecDepth 20000 in
theorem gX8_of_X8_isOn : GoodIn wsX8_of (va_wsS RX8 113 yX8_isOn wsX8_isOn) := goodIn_app (goodIn_of _ (by decide +kernel)) ggX8_of_X8_isOn
theorem dX8_of_0 : decode cX8_of 0 = .ok (.aload_n 0, 1) := by decide +kernel
theorem dX8_of_1 : decode cX8_of 1 = .ok (.aload_n 0, 1) := by decide +kernel
theorem dX8_of_2 : decode cX8_of 2 = .ok (.iload_n 1, 1) := by decide +kernel
theorem dX8_of_3 : decode cX8_of 3 = .ok (.invokevirtual 103, 3) := by decide +kernel
theorem dX8_of_6 : decode cX8_of 6 = .ok (.ifCond .eq 19, 3) := by decide +kernel
theorem dX8_of_9 : decode cX8_of 9 = .ok (.iload_n 2, 1) := by decide +kernel
theorem dX8_of_10 : decode cX8_of 10 = .ok (.i2l, 1) := by decide +kernel
theorem dX8_of_11 : decode cX8_of 11 = .ok (.lconst 0, 1) := by decide +kernel
theorem dX8_of_12 : decode cX8_of 12 = .ok (.ldc2_w 257, 3) := by decide +kernel
theorem dX8_of_15 : decode cX8_of 15 = .ok (.invokestatic 84, 3) := by decide +kernel
theorem dX8_of_18 : decode cX8_of 18 = .ok (.ifCond .eq 7, 3) := by decide +kernel
theorem dX8_of_21 : decode cX8_of 21 = .ok (.iconst 0, 1) := by decide +kernel
theorem dX8_of_22 : decode cX8_of 22 = .ok (.goto 4, 3) := by decide +kernel
theorem dX8_of_25 : decode cX8_of 25 = .ok (.iconst 1, 1) := by decide +kernel
theorem dX8_of_26 : decode cX8_of 26 = .ok (.putfield 77, 3) := by decide +kernel
theorem dX8_of_29 : decode cX8_of 29 = .ok (.aload_n 0, 1) := by decide +kernel
theorem dX8_of_30 : decode cX8_of 30 = .ok (.getfield 77, 3) := by decide +kernel
theorem dX8_of_33 : decode cX8_of 33 = .ok (.ifCond .le 5, 3) := by decide +kernel
theorem dX8_of_36 : decode cX8_of 36 = .ok (.iconst 0, 1) := by decide +kernel
theorem dX8_of_37 : decode cX8_of 37 = .ok (.ireturn, 1) := by decide +kernel
theorem dX8_of_38 : decode cX8_of 38 = .ok (.iload_n 2, 1) := by decide +kernel
theorem dX8_of_39 : decode cX8_of 39 = .ok (.tableswitch 67 0 4 #[33, 40, 47, 47, 60], 33) := by decide +kernel
theorem dX8_of_72 : decode cX8_of 72 = .ok (.aload_n 0, 1) := by decide +kernel
theorem dX8_of_73 : decode cX8_of 73 = .ok (.getfield 7, 3) := by decide +kernel
theorem dX8_of_76 : decode cX8_of 76 = .ok (.iload_n 1, 1) := by decide +kernel
theorem dX8_of_77 : decode cX8_of 77 = .ok (.iaload, 1) := by decide +kernel
theorem dX8_of_78 : decode cX8_of 78 = .ok (.ireturn, 1) := by decide +kernel
theorem dX8_of_79 : decode cX8_of 79 = .ok (.aload_n 0, 1) := by decide +kernel
theorem dX8_of_80 : decode cX8_of 80 = .ok (.getfield 13, 3) := by decide +kernel
theorem dX8_of_83 : decode cX8_of 83 = .ok (.iload_n 1, 1) := by decide +kernel
theorem dX8_of_84 : decode cX8_of 84 = .ok (.iaload, 1) := by decide +kernel
theorem dX8_of_85 : decode cX8_of 85 = .ok (.ireturn, 1) := by decide +kernel
theorem dX8_of_86 : decode cX8_of 86 = .ok (.aload_n 0, 1) := by decide +kernel
theorem dX8_of_87 : decode cX8_of 87 = .ok (.getfield 19, 3) := by decide +kernel
theorem dX8_of_90 : decode cX8_of 90 = .ok (.iconst 2, 1) := by decide +kernel
theorem dX8_of_91 : decode cX8_of 91 = .ok (.iload_n 1, 1) := by decide +kernel
theorem dX8_of_92 : decode cX8_of 92 = .ok (.imul, 1) := by decide +kernel
theorem dX8_of_93 : decode cX8_of 93 = .ok (.iload_n 2, 1) := by decide +kernel
theorem dX8_of_94 : decode cX8_of 94 = .ok (.iadd, 1) := by decide +kernel
theorem dX8_of_95 : decode cX8_of 95 = .ok (.iconst 2, 1) := by decide +kernel
theorem dX8_of_96 : decode cX8_of 96 = .ok (.isub, 1) := by decide +kernel
theorem dX8_of_97 : decode cX8_of 97 = .ok (.iaload, 1) := by decide +kernel
theorem dX8_of_98 : decode cX8_of 98 = .ok (.ireturn, 1) := by decide +kernel
theorem dX8_of_99 : decode cX8_of 99 = .ok (.aload_n 0, 1) := by decide +kernel
theorem dX8_of_100 : decode cX8_of 100 = .ok (.getfield 16, 3) := by decide +kernel
theorem dX8_of_103 : decode cX8_of 103 = .ok (.iload_n 1, 1) := by decide +kernel
theorem dX8_of_104 : decode cX8_of 104 = .ok (.iaload, 1) := by decide +kernel
theorem dX8_of_105 : decode cX8_of 105 = .ok (.ireturn, 1) := by decide +kernel
theorem dX8_of_106 : decode cX8_of 106 = .ok (.iconst 0, 1) := by decide +kernel
theorem dX8_of_107 : decode cX8_of 107 = .ok (.istore_n 3, 1) := by decide +kernel
theorem dX8_of_108 : decode cX8_of 108 = .ok (.iconst 0, 1) := by decide +kernel
theorem dX8_of_109 : decode cX8_of 109 = .ok (.istore 4, 2) := by decide +kernel
theorem dX8_of_111 : decode cX8_of 111 = .ok (.iload 4, 2) := by decide +kernel
theorem dX8_of_113 : decode cX8_of 113 = .ok (.aload_n 0, 1) := by decide +kernel
theorem dX8_of_114 : decode cX8_of 114 = .ok (.getfield 88, 3) := by decide +kernel
theorem dX8_of_117 : decode cX8_of 117 = .ok (.if_icmp .ge 54, 3) := by decide +kernel
theorem dX8_of_120 : decode cX8_of 120 = .ok (.iload_n 3, 1) := by decide +kernel
theorem dX8_of_121 : decode cX8_of 121 = .ok (.aload_n 0, 1) := by decide +kernel
theorem dX8_of_122 : decode cX8_of 122 = .ok (.getfield 107, 3) := by decide +kernel
theorem dX8_of_125 : decode cX8_of 125 = .ok (.iload 4, 2) := by decide +kernel
theorem dX8_of_127 : decode cX8_of 127 = .ok (.invokestatic 113, 3) := by decide +kernel
theorem dX8_of_130 : decode cX8_of 130 = .ok (.ifCond .eq 32, 3) := by decide +kernel
theorem dX8_of_133 : decode cX8_of 133 = .ok (.aload_n 0, 1) := by decide +kernel
theorem dX8_of_134 : decode cX8_of 134 = .ok (.getfield 22, 3) := by decide +kernel
theorem dX8_of_137 : decode cX8_of 137 = .ok (.iload 4, 2) := by decide +kernel
theorem dX8_of_139 : decode cX8_of 139 = .ok (.iaload, 1) := by decide +kernel
theorem dX8_of_140 : decode cX8_of 140 = .ok (.iload_n 1, 1) := by decide +kernel
theorem dX8_of_141 : decode cX8_of 141 = .ok (.if_icmp .eq 14, 3) := by decide +kernel
theorem dX8_of_144 : decode cX8_of 144 = .ok (.aload_n 0, 1) := by decide +kernel
theorem dX8_of_145 : decode cX8_of 145 = .ok (.getfield 25, 3) := by decide +kernel
theorem dX8_of_148 : decode cX8_of 148 = .ok (.iload 4, 2) := by decide +kernel
theorem dX8_of_150 : decode cX8_of 150 = .ok (.iaload, 1) := by decide +kernel
theorem dX8_of_151 : decode cX8_of 151 = .ok (.iload_n 1, 1) := by decide +kernel
theorem dX8_of_152 : decode cX8_of 152 = .ok (.if_icmp .ne 10, 3) := by decide +kernel
theorem dX8_of_155 : decode cX8_of 155 = .ok (.iconst 1, 1) := by decide +kernel
theorem dX8_of_156 : decode cX8_of 156 = .ok (.iload 4, 2) := by decide +kernel
theorem dX8_of_158 : decode cX8_of 158 = .ok (.ishl, 1) := by decide +kernel
theorem dX8_of_159 : decode cX8_of 159 = .ok (.goto 4, 3) := by decide +kernel
theorem dX8_of_162 : decode cX8_of 162 = .ok (.iconst 0, 1) := by decide +kernel
theorem dX8_of_163 : decode cX8_of 163 = .ok (.ior, 1) := by decide +kernel
theorem dX8_of_164 : decode cX8_of 164 = .ok (.istore_n 3, 1) := by decide +kernel
theorem dX8_of_165 : decode cX8_of 165 = .ok (.iinc 4 1, 3) := by decide +kernel
theorem dX8_of_168 : decode cX8_of 168 = .ok (.goto (-57), 3) := by decide +kernel
theorem dX8_of_171 : decode cX8_of 171 = .ok (.iload_n 3, 1) := by decide +kernel
theorem dX8_of_172 : decode cX8_of 172 = .ok (.ireturn, 1) := by decide +kernel
set_option maxRecDepth 20000 in
theorem ggX8_spareNumber_X8_laysBase : GoodIn wsX8_spareNumber wsX8_laysBase := goodIn_r _ [7, 8, 2, 9, 10, 11, 12, 13, 14, 15, 16, 6, 17, 18, 19, 20, 21, 22, 23, 24, 25, 26, 27, 28, 29, 30, 31, 32, 33, 34, 35, 36, 37, 38, 39, 40, 41, 42, 43, 44, 48, 49, 50, 51, 52, 53, 54, 55, 56, 57, 58, 59, 60, 61, 62, 63, 64, 65, 66, 67, 68, 69, 70, 71, 72, 73, 74, 75, 76, 77, 78, 79, 80, 81, 82] (by decide +kernel) (by decide +kernel)
set_option maxRecDepth 20000 in
theorem gX8_spareNumber_X8_laysBase : GoodIn wsX8_spareNumber (wsV RX8 169 RX8 yX8_laysBase wsX8_laysBase) := goodIn_app (goodIn_of _ (by decide +kernel)) ggX8_spareNumber_X8_laysBase
set_option maxRecDepth 20000 in
theorem ggX8_spareNumber_X8_isOn : GoodIn wsX8_spareNumber wsX8_isOn := goodIn_r _ [22] (by decide +kernel) (by decide +kernel)
set_option maxRecDepth 20000 in
theorem gX8_spareNumber_X8_isOn : GoodIn wsX8_spareNumber (va_wsS RX8 113 yX8_isOn wsX8_isOn) := goodIn_app (goodIn_of _ (by decide +kernel)) ggX8_spareNumber_X8_isOn
set_option maxRecDepth 20000 in
theorem ggX8_spareNumber_X8_bits : GoodIn wsX8_spareNumber wsX8_bits := goodIn_r _ [47] (by decide +kernel) (by decide +kernel)
set_option maxRecDepth 20000 in
theorem gX8_spareNumber_X8_bits : GoodIn wsX8_spareNumber (va_wsS RX8 165 yX8_bits wsX8_bits) := goodIn_app (goodIn_of _ (by decide +kernel)) ggX8_spareNumber_X8_bits
theorem dX8_spareNumber_0 : decode cX8_spareNumber 0 = .ok (.aload_n 0, 1) := by decide +kernel
theorem dX8_spareNumber_1 : decode cX8_spareNumber 1 = .ok (.aload_n 0, 1) := by decide +kernel
theorem dX8_spareNumber_2 : decode cX8_spareNumber 2 = .ok (.getfield 107, 3) := by decide +kernel
theorem dX8_spareNumber_5 : decode cX8_spareNumber 5 = .ok (.invokevirtual 169, 3) := by decide +kernel
theorem dX8_spareNumber_8 : decode cX8_spareNumber 8 = .ok (.aload_n 0, 1) := by decide +kernel
theorem dX8_spareNumber_9 : decode cX8_spareNumber 9 = .ok (.getfield 155, 3) := by decide +kernel
theorem dX8_spareNumber_12 : decode cX8_spareNumber 12 = .ok (.iload_n 1, 1) := by decide +kernel
theorem dX8_spareNumber_13 : decode cX8_spareNumber 13 = .ok (.invokestatic 113, 3) := by decide +kernel
theorem dX8_spareNumber_16 : decode cX8_spareNumber 16 = .ok (.ifCond .eq 19, 3) := by decide +kernel
theorem dX8_spareNumber_19 : decode cX8_spareNumber 19 = .ok (.aload_n 0, 1) := by decide +kernel
theorem dX8_spareNumber_20 : decode cX8_spareNumber 20 = .ok (.getfield 155, 3) := by decide +kernel
theorem dX8_spareNumber_23 : decode cX8_spareNumber 23 = .ok (.iconst 1, 1) := by decide +kernel
theorem dX8_spareNumber_24 : decode cX8_spareNumber 24 = .ok (.iload_n 1, 1) := by decide +kernel
theorem dX8_spareNumber_25 : decode cX8_spareNumber 25 = .ok (.ishl, 1) := by decide +kernel
theorem dX8_spareNumber_26 : decode cX8_spareNumber 26 = .ok (.iconst 1, 1) := by decide +kernel
theorem dX8_spareNumber_27 : decode cX8_spareNumber 27 = .ok (.isub, 1) := by decide +kernel
theorem dX8_spareNumber_28 : decode cX8_spareNumber 28 = .ok (.iand, 1) := by decide +kernel
theorem dX8_spareNumber_29 : decode cX8_spareNumber 29 = .ok (.invokestatic 165, 3) := by decide +kernel
theorem dX8_spareNumber_32 : decode cX8_spareNumber 32 = .ok (.goto 4, 3) := by decide +kernel
theorem dX8_spareNumber_35 : decode cX8_spareNumber 35 = .ok (.iconst (-1), 1) := by decide +kernel
theorem dX8_spareNumber_36 : decode cX8_spareNumber 36 = .ok (.ireturn, 1) := by decide +kernel
set_option maxRecDepth 20000 in
theorem ggX8_at_X8_isBar : GoodIn wsX8_at wsX8_isBar := goodIn_r _ [12, 13, 14, 15, 11, 16, 63, 64, 65, 66, 67, 68, 69, 70, 71, 72, 73, 74, 75, 76, 77, 78, 79, 80, 81, 82, 83, 84, 85, 86, 87, 88, 89, 90, 91, 92, 93, 94, 95, 96, 97] (by decide +kernel) (by decide +kernel)
set_option maxRecDepth 20000 in
theorem gX8_at_X8_isBar : GoodIn wsX8_at (wsV RX8 110 RX8 yX8_isBar wsX8_isBar) := goodIn_app (goodIn_of _ (by decide +kernel)) ggX8_at_X8_isBar
set_option maxRecDepth 20000 in
theorem ggX8_at_X8_in : GoodIn wsX8_at wsX8_in := goodIn_r _ [16] (by decide +kernel) (by decide +kernel)
set_option maxRecDepth 20000 in
theorem gX8_at_X8_in : GoodIn wsX8_at (va_wsS RX8 84 yX8_in wsX8_in) := goodIn_app (goodIn_of _ (by decide +kernel)) ggX8_at_X8_in
set_option maxRecDepth 20000 in
theorem ggX8_at_X8_spareNumber : GoodIn wsX8_at wsX8_spareNumber := goodIn_r _ [20, 7, 21, 22, 23, 24, 11, 25, 26, 13, 27, 28, 29, 30, 31, 32, 33, 34, 35, 36, 37, 38, 39, 40, 41, 42, 43, 3, 4, 44, 45, 46, 47, 48, 49, 50, 51, 52, 53, 54, 55, 56, 57, 58, 59, 60, 61, 62, 63, 64, 65, 66, 67, 68, 69, 70, 71, 72, 73, 74, 75, 76, 77, 78, 79, 80, 81, 82, 83, 84, 85, 86, 87, 88, 89, 90, 91, 92, 93, 94, 95, 96, 97] (by decide +kernel) (by decide +kernel)
set_option maxRecDepth 20000 in
theorem gX8_at_X8_spareNumber : GoodIn wsX8_at (wsV RX8 259 RX8 yX8_spareNumber wsX8_spareNumber) := goodIn_app (goodIn_of _ (by decide +kernel)) ggX8_at_X8_spareNumber
theorem dX8_at_0 : decode cX8_at 0 = .ok (.aload_n 0, 1) := by decide +kernel
theorem dX8_at_1 : decode cX8_at 1 = .ok (.aload_n 0, 1) := by decide +kernel
theorem dX8_at_2 : decode cX8_at 2 = .ok (.iload_n 1, 1) := by decide +kernel
theorem dX8_at_3 : decode cX8_at 3 = .ok (.invokevirtual 110, 3) := by decide +kernel
theorem dX8_at_6 : decode cX8_at 6 = .ok (.ifCond .eq 19, 3) := by decide +kernel
theorem dX8_at_9 : decode cX8_at 9 = .ok (.iload_n 2, 1) := by decide +kernel
theorem dX8_at_10 : decode cX8_at 10 = .ok (.i2l, 1) := by decide +kernel
theorem dX8_at_11 : decode cX8_at 11 = .ok (.lconst 0, 1) := by decide +kernel
theorem dX8_at_12 : decode cX8_at 12 = .ok (.ldc2_w 257, 3) := by decide +kernel
theorem dX8_at_15 : decode cX8_at 15 = .ok (.invokestatic 84, 3) := by decide +kernel
theorem dX8_at_18 : decode cX8_at 18 = .ok (.ifCond .eq 7, 3) := by decide +kernel
theorem dX8_at_21 : decode cX8_at 21 = .ok (.iconst 0, 1) := by decide +kernel
theorem dX8_at_22 : decode cX8_at 22 = .ok (.goto 4, 3) := by decide +kernel
theorem dX8_at_25 : decode cX8_at 25 = .ok (.iconst 1, 1) := by decide +kernel
theorem dX8_at_26 : decode cX8_at 26 = .ok (.putfield 77, 3) := by decide +kernel
theorem dX8_at_29 : decode cX8_at 29 = .ok (.aload_n 0, 1) := by decide +kernel
theorem dX8_at_30 : decode cX8_at 30 = .ok (.getfield 77, 3) := by decide +kernel
theorem dX8_at_33 : decode cX8_at 33 = .ok (.ifCond .le 5, 3) := by decide +kernel
theorem dX8_at_36 : decode cX8_at 36 = .ok (.iconst 0, 1) := by decide +kernel
theorem dX8_at_37 : decode cX8_at 37 = .ok (.ireturn, 1) := by decide +kernel
theorem dX8_at_38 : decode cX8_at 38 = .ok (.iload_n 2, 1) := by decide +kernel
theorem dX8_at_39 : decode cX8_at 39 = .ok (.tableswitch 70 0 4 #[33, 40, 47, 54, 61], 33) := by decide +kernel
theorem dX8_at_72 : decode cX8_at 72 = .ok (.aload_n 0, 1) := by decide +kernel
theorem dX8_at_73 : decode cX8_at 73 = .ok (.getfield 22, 3) := by decide +kernel
theorem dX8_at_76 : decode cX8_at 76 = .ok (.iload_n 1, 1) := by decide +kernel
theorem dX8_at_77 : decode cX8_at 77 = .ok (.iaload, 1) := by decide +kernel
theorem dX8_at_78 : decode cX8_at 78 = .ok (.ireturn, 1) := by decide +kernel
theorem dX8_at_79 : decode cX8_at 79 = .ok (.aload_n 0, 1) := by decide +kernel
theorem dX8_at_80 : decode cX8_at 80 = .ok (.getfield 25, 3) := by decide +kernel
theorem dX8_at_83 : decode cX8_at 83 = .ok (.iload_n 1, 1) := by decide +kernel
theorem dX8_at_84 : decode cX8_at 84 = .ok (.iaload, 1) := by decide +kernel
theorem dX8_at_85 : decode cX8_at 85 = .ok (.ireturn, 1) := by decide +kernel
theorem dX8_at_86 : decode cX8_at 86 = .ok (.aload_n 0, 1) := by decide +kernel
theorem dX8_at_87 : decode cX8_at 87 = .ok (.getfield 28, 3) := by decide +kernel
theorem dX8_at_90 : decode cX8_at 90 = .ok (.iload_n 1, 1) := by decide +kernel
theorem dX8_at_91 : decode cX8_at 91 = .ok (.iaload, 1) := by decide +kernel
theorem dX8_at_92 : decode cX8_at 92 = .ok (.ireturn, 1) := by decide +kernel
theorem dX8_at_93 : decode cX8_at 93 = .ok (.aload_n 0, 1) := by decide +kernel
theorem dX8_at_94 : decode cX8_at 94 = .ok (.getfield 31, 3) := by decide +kernel
theorem dX8_at_97 : decode cX8_at 97 = .ok (.iload_n 1, 1) := by decide +kernel
theorem dX8_at_98 : decode cX8_at 98 = .ok (.iaload, 1) := by decide +kernel
theorem dX8_at_99 : decode cX8_at 99 = .ok (.ireturn, 1) := by decide +kernel
theorem dX8_at_100 : decode cX8_at 100 = .ok (.aload_n 0, 1) := by decide +kernel
theorem dX8_at_101 : decode cX8_at 101 = .ok (.getfield 107, 3) := by decide +kernel
theorem dX8_at_104 : decode cX8_at 104 = .ok (.iload_n 1, 1) := by decide +kernel
theorem dX8_at_105 : decode cX8_at 105 = .ok (.ishr, 1) := by decide +kernel
theorem dX8_at_106 : decode cX8_at 106 = .ok (.iconst 1, 1) := by decide +kernel
theorem dX8_at_107 : decode cX8_at 107 = .ok (.iand, 1) := by decide +kernel
theorem dX8_at_108 : decode cX8_at 108 = .ok (.ireturn, 1) := by decide +kernel
theorem dX8_at_109 : decode cX8_at 109 = .ok (.aload_n 0, 1) := by decide +kernel
theorem dX8_at_110 : decode cX8_at 110 = .ok (.iload_n 1, 1) := by decide +kernel
theorem dX8_at_111 : decode cX8_at 111 = .ok (.invokevirtual 259, 3) := by decide +kernel
theorem dX8_at_114 : decode cX8_at 114 = .ok (.ireturn, 1) := by decide +kernel
set_option maxRecDepth 20000 in
theorem ggX8_painted_X8_takesLoads : GoodIn wsX8_painted wsX8_takesLoads := goodIn_r _ [13, 14, 15, 100, 101, 102, 103, 104, 105, 106, 107, 108, 109, 110, 111, 112, 113, 114, 115, 116, 117, 118, 119, 120, 121, 122, 123, 124, 125, 126, 127, 128, 129, 130, 131, 132, 133, 134] (by decide +kernel) (by decide +kernel)
set_option maxRecDepth 20000 in
theorem gX8_painted_X8_takesLoads : GoodIn wsX8_painted (wsV RX8 203 RX8 yX8_takesLoads wsX8_takesLoads) := goodIn_app (goodIn_of _ (by decide +kernel)) ggX8_painted_X8_takesLoads
set_option maxRecDepth 20000 in
theorem ggX8_painted_X8_in : GoodIn wsX8_painted wsX8_in := goodIn_r _ [18] (by decide +kernel) (by decide +kernel)
set_option maxRecDepth 20000 in
theorem gX8_painted_X8_in : GoodIn wsX8_painted (va_wsS RX8 84 yX8_in wsX8_in) := goodIn_app (goodIn_of _ (by decide +kernel)) ggX8_painted_X8_in
set_option maxRecDepth 20000 in
theorem ggX8_painted_X8_bears : GoodIn wsX8_painted wsX8_bears := goodIn_r _ [22, 8, 6, 5, 23, 24, 25, 26, 12, 27, 28, 29, 30, 31, 32, 33, 34, 35, 36, 37, 38, 39, 40, 41, 42, 43, 44, 45, 46, 47, 48, 49, 50, 51, 52, 53, 54, 55, 56, 57, 58, 59, 60, 61, 62, 63, 64, 65, 66, 67, 68, 69, 70, 71, 72, 73, 74, 75, 76, 77, 78, 79, 80, 81, 82, 14, 83, 84, 85, 86, 87, 88, 89, 90, 91, 92, 93, 94, 95, 96, 97, 98, 99, 100, 101, 102, 103, 104, 105, 106, 107, 108, 109, 110, 111, 112, 113, 114, 115, 116, 117, 118, 119, 120, 121, 122, 123, 124, 125, 126, 127, 128, 129, 130, 131, 132, 133, 134] (by decide +kernel) (by decide +kernel)
set_option maxRecDepth 20000 in
theorem gX8_painted_X8_bears : GoodIn wsX8_painted (wsV RX8 206 RX8 yX8_bears wsX8_bears) := goodIn_app (goodIn_of _ (by decide +kernel)) ggX8_painted_X8_bears
set_option maxRecDepth 20000 in
theorem ggX8_painted_X8_abs : GoodIn wsX8_painted wsX8_abs := goodIn_r _ [67] (by decide +kernel) (by decide +kernel)
set_option maxRecDepth 20000 in
theorem gX8_painted_X8_abs : GoodIn wsX8_painted (va_wsS RX8 141 yX8_abs wsX8_abs) := goodIn_app (goodIn_of _ (by decide +kernel)) ggX8_painted_X8_abs
set_option maxRecDepth 20000 in
theorem ggX8_painted_X8_isOn : GoodIn wsX8_painted wsX8_isOn := goodIn_r _ [45] (by decide +kernel) (by decide +kernel)
set_option maxRecDepth 20000 in
theorem gX8_painted_X8_isOn : GoodIn wsX8_painted (va_wsS RX8 113 yX8_isOn wsX8_isOn) := goodIn_app (goodIn_of _ (by decide +kernel)) ggX8_painted_X8_isOn
theorem dX8_painted_0 : decode cX8_painted 0 = .ok (.aload_n 0, 1) := by decide +kernel
theorem dX8_painted_1 : decode cX8_painted 1 = .ok (.iconst 0, 1) := by decide +kernel
theorem dX8_painted_2 : decode cX8_painted 2 = .ok (.putfield 77, 3) := by decide +kernel
theorem dX8_painted_5 : decode cX8_painted 5 = .ok (.aload_n 0, 1) := by decide +kernel
theorem dX8_painted_6 : decode cX8_painted 6 = .ok (.invokevirtual 203, 3) := by decide +kernel
theorem dX8_painted_9 : decode cX8_painted 9 = .ok (.iload_n 1, 1) := by decide +kernel
theorem dX8_painted_10 : decode cX8_painted 10 = .ok (.i2l, 1) := by decide +kernel
theorem dX8_painted_11 : decode cX8_painted 11 = .ok (.ldc2_w 201, 3) := by decide +kernel
theorem dX8_painted_14 : decode cX8_painted 14 = .ok (.ldc2_w 93, 3) := by decide +kernel
theorem dX8_painted_17 : decode cX8_painted 17 = .ok (.invokestatic 84, 3) := by decide +kernel
theorem dX8_painted_20 : decode cX8_painted 20 = .ok (.ifCond .eq 14, 3) := by decide +kernel
theorem dX8_painted_23 : decode cX8_painted 23 = .ok (.aload_n 0, 1) := by decide +kernel
theorem dX8_painted_24 : decode cX8_painted 24 = .ok (.aload_n 0, 1) := by decide +kernel
theorem dX8_painted_25 : decode cX8_painted 25 = .ok (.getfield 107, 3) := by decide +kernel
theorem dX8_painted_28 : decode cX8_painted 28 = .ok (.invokevirtual 206, 3) := by decide +kernel
theorem dX8_painted_31 : decode cX8_painted 31 = .ok (.ifCond .ne 5, 3) := by decide +kernel
theorem dX8_painted_34 : decode cX8_painted 34 = .ok (.iconst (-1), 1) := by decide +kernel
theorem dX8_painted_35 : decode cX8_painted 35 = .ok (.ireturn, 1) := by decide +kernel
theorem dX8_painted_36 : decode cX8_painted 36 = .ok (.iconst 0, 1) := by decide +kernel
theorem dX8_painted_37 : decode cX8_painted 37 = .ok (.istore_n 2, 1) := by decide +kernel
theorem dX8_painted_38 : decode cX8_painted 38 = .ok (.iconst 0, 1) := by decide +kernel
theorem dX8_painted_39 : decode cX8_painted 39 = .ok (.istore_n 3, 1) := by decide +kernel
theorem dX8_painted_40 : decode cX8_painted 40 = .ok (.iload_n 3, 1) := by decide +kernel
theorem dX8_painted_41 : decode cX8_painted 41 = .ok (.aload_n 0, 1) := by decide +kernel
theorem dX8_painted_42 : decode cX8_painted 42 = .ok (.getfield 88, 3) := by decide +kernel
theorem dX8_painted_45 : decode cX8_painted 45 = .ok (.if_icmp .ge 115, 3) := by decide +kernel
theorem dX8_painted_48 : decode cX8_painted 48 = .ok (.iload_n 1, 1) := by decide +kernel
theorem dX8_painted_49 : decode cX8_painted 49 = .ok (.iconst 2, 1) := by decide +kernel
theorem dX8_painted_50 : decode cX8_painted 50 = .ok (.if_icmp .ne 36, 3) := by decide +kernel
theorem dX8_painted_53 : decode cX8_painted 53 = .ok (.aload_n 0, 1) := by decide +kernel
theorem dX8_painted_54 : decode cX8_painted 54 = .ok (.getfield 53, 3) := by decide +kernel
theorem dX8_painted_57 : decode cX8_painted 57 = .ok (.iload_n 3, 1) := by decide +kernel
theorem dX8_painted_58 : decode cX8_painted 58 = .ok (.laload, 1) := by decide +kernel
theorem dX8_painted_59 : decode cX8_painted 59 = .ok (.invokestatic 141, 3) := by decide +kernel
theorem dX8_painted_62 : decode cX8_painted 62 = .ok (.aload_n 0, 1) := by decide +kernel
theorem dX8_painted_63 : decode cX8_painted 63 = .ok (.getfield 31, 3) := by decide +kernel
theorem dX8_painted_66 : decode cX8_painted 66 = .ok (.iload_n 3, 1) := by decide +kernel
theorem dX8_painted_67 : decode cX8_painted 67 = .ok (.iaload, 1) := by decide +kernel
theorem dX8_painted_68 : decode cX8_painted 68 = .ok (.i2l, 1) := by decide +kernel
theorem dX8_painted_69 : decode cX8_painted 69 = .ok (.aload_n 0, 1) := by decide +kernel
theorem dX8_painted_70 : decode cX8_painted 70 = .ok (.getfield 189, 3) := by decide +kernel
theorem dX8_painted_73 : decode cX8_painted 73 = .ok (.lmul, 1) := by decide +kernel
theorem dX8_painted_74 : decode cX8_painted 74 = .ok (.lcmp, 1) := by decide +kernel
theorem dX8_painted_75 : decode cX8_painted 75 = .ok (.ifCond .le 7, 3) := by decide +kernel
theorem dX8_painted_78 : decode cX8_painted 78 = .ok (.iconst 1, 1) := by decide +kernel
theorem dX8_painted_79 : decode cX8_painted 79 = .ok (.goto 47, 3) := by decide +kernel
theorem dX8_painted_82 : decode cX8_painted 82 = .ok (.iconst 0, 1) := by decide +kernel
theorem dX8_painted_83 : decode cX8_painted 83 = .ok (.goto 43, 3) := by decide +kernel
theorem dX8_painted_86 : decode cX8_painted 86 = .ok (.iload_n 1, 1) := by decide +kernel
theorem dX8_painted_87 : decode cX8_painted 87 = .ok (.aload_n 0, 1) := by decide +kernel
theorem dX8_painted_88 : decode cX8_painted 88 = .ok (.getfield 53, 3) := by decide +kernel
theorem dX8_painted_91 : decode cX8_painted 91 = .ok (.iload_n 3, 1) := by decide +kernel
theorem dX8_painted_92 : decode cX8_painted 92 = .ok (.laload, 1) := by decide +kernel
theorem dX8_painted_93 : decode cX8_painted 93 = .ok (.lconst 0, 1) := by decide +kernel
theorem dX8_painted_94 : decode cX8_painted 94 = .ok (.lcmp, 1) := by decide +kernel
theorem dX8_painted_95 : decode cX8_painted 95 = .ok (.ifCond .le 7, 3) := by decide +kernel
theorem dX8_painted_98 : decode cX8_painted 98 = .ok (.iconst 1, 1) := by decide +kernel
theorem dX8_painted_99 : decode cX8_painted 99 = .ok (.goto 19, 3) := by decide +kernel
theorem dX8_painted_102 : decode cX8_painted 102 = .ok (.aload_n 0, 1) := by decide +kernel
theorem dX8_painted_103 : decode cX8_painted 103 = .ok (.getfield 53, 3) := by decide +kernel
theorem dX8_painted_106 : decode cX8_painted 106 = .ok (.iload_n 3, 1) := by decide +kernel
theorem dX8_painted_107 : decode cX8_painted 107 = .ok (.laload, 1) := by decide +kernel
theorem dX8_painted_108 : decode cX8_painted 108 = .ok (.lconst 0, 1) := by decide +kernel
theorem dX8_painted_109 : decode cX8_painted 109 = .ok (.lcmp, 1) := by decide +kernel
theorem dX8_painted_110 : decode cX8_painted 110 = .ok (.ifCond .ge 7, 3) := by decide +kernel
theorem dX8_painted_113 : decode cX8_painted 113 = .ok (.iconst (-1), 1) := by decide +kernel
theorem dX8_painted_114 : decode cX8_painted 114 = .ok (.goto 4, 3) := by decide +kernel
theorem dX8_painted_117 : decode cX8_painted 117 = .ok (.iconst 0, 1) := by decide +kernel
theorem dX8_painted_118 : decode cX8_painted 118 = .ok (.if_icmp .ne 7, 3) := by decide +kernel
theorem dX8_painted_121 : decode cX8_painted 121 = .ok (.iconst 1, 1) := by decide +kernel
theorem dX8_painted_122 : decode cX8_painted 122 = .ok (.goto 4, 3) := by decide +kernel
theorem dX8_painted_125 : decode cX8_painted 125 = .ok (.iconst 0, 1) := by decide +kernel
theorem dX8_painted_126 : decode cX8_painted 126 = .ok (.istore 4, 2) := by decide +kernel
theorem dX8_painted_128 : decode cX8_painted 128 = .ok (.iload_n 2, 1) := by decide +kernel
theorem dX8_painted_129 : decode cX8_painted 129 = .ok (.iload 4, 2) := by decide +kernel
theorem dX8_painted_131 : decode cX8_painted 131 = .ok (.ifCond .eq 20, 3) := by decide +kernel
theorem dX8_painted_134 : decode cX8_painted 134 = .ok (.aload_n 0, 1) := by decide +kernel
theorem dX8_painted_135 : decode cX8_painted 135 = .ok (.getfield 107, 3) := by decide +kernel
theorem dX8_painted_138 : decode cX8_painted 138 = .ok (.iload_n 3, 1) := by decide +kernel
theorem dX8_painted_139 : decode cX8_painted 139 = .ok (.invokestatic 113, 3) := by decide +kernel
theorem dX8_painted_142 : decode cX8_painted 142 = .ok (.ifCond .eq 9, 3) := by decide +kernel
theorem dX8_painted_145 : decode cX8_painted 145 = .ok (.iconst 1, 1) := by decide +kernel
theorem dX8_painted_146 : decode cX8_painted 146 = .ok (.iload_n 3, 1) := by decide +kernel
theorem dX8_painted_147 : decode cX8_painted 147 = .ok (.ishl, 1) := by decide +kernel
theorem dX8_painted_148 : decode cX8_painted 148 = .ok (.goto 4, 3) := by decide +kernel
theorem dX8_painted_151 : decode cX8_painted 151 = .ok (.iconst 0, 1) := by decide +kernel
theorem dX8_painted_152 : decode cX8_painted 152 = .ok (.ior, 1) := by decide +kernel
theorem dX8_painted_153 : decode cX8_painted 153 = .ok (.istore_n 2, 1) := by decide +kernel
theorem dX8_painted_154 : decode cX8_painted 154 = .ok (.iinc 3 1, 3) := by decide +kernel
theorem dX8_painted_157 : decode cX8_painted 157 = .ok (.goto (-117), 3) := by decide +kernel
theorem dX8_painted_160 : decode cX8_painted 160 = .ok (.iload_n 2, 1) := by decide +kernel
theorem dX8_painted_161 : decode cX8_painted 161 = .ok (.ireturn, 1) := by decide +kernel
set_option maxRecDepth 20000 in
theorem ggX8_times_X8_takesLoads : GoodIn wsX8_times wsX8_takesLoads := goodIn_r _ [11, 12, 13, 95, 96, 97, 98, 99, 100, 101, 102, 103, 104, 105, 106, 107, 108, 109, 110, 111, 112, 113, 114, 115, 116, 117, 118, 119, 120, 121, 122, 123, 124, 125, 126, 127, 128, 129] (by decide +kernel) (by decide +kernel)
set_option maxRecDepth 20000 in
theorem gX8_times_X8_takesLoads : GoodIn wsX8_times (wsV RX8 203 RX8 yX8_takesLoads wsX8_takesLoads) := goodIn_app (goodIn_of _ (by decide +kernel)) ggX8_times_X8_takesLoads
set_option maxRecDepth 20000 in
theorem ggX8_times_X8_bears : GoodIn wsX8_times wsX8_bears := goodIn_r _ [17, 5, 4, 3, 18, 19, 20, 21, 10, 22, 23, 24, 25, 26, 27, 28, 29, 30, 31, 32, 33, 34, 35, 36, 37, 38, 39, 40, 41, 42, 43, 44, 45, 46, 47, 48, 49, 50, 51, 52, 53, 54, 55, 56, 57, 58, 59, 60, 61, 62, 63, 64, 65, 66, 67, 68, 69, 70, 71, 72, 73, 74, 75, 76, 77, 12, 78, 79, 80, 81, 82, 83, 84, 85, 86, 87, 88, 89, 90, 91, 92, 93, 94, 95, 96, 97, 98, 99, 100, 101, 102, 103, 104, 105, 106, 107, 108, 109, 110, 111, 112, 113, 114, 115, 116, 117, 118, 119, 120, 121, 122, 123, 124, 125, 126, 127, 128, 129] (by decide +kernel) (by decide +kernel)
set_option maxRecDepth 20000 in
theorem gX8_times_X8_bears : GoodIn wsX8_times (wsV RX8 206 RX8 yX8_bears wsX8_bears) := goodIn_app (goodIn_of _ (by decide +kernel)) ggX8_times_X8_bears
set_option maxRecDepth 20000 in
theorem ggX8_times_X8_abs : GoodIn wsX8_times wsX8_abs := goodIn_r _ [62] (by decide +kernel) (by decide +kernel)
set_option maxRecDepth 20000 in
theorem gX8_times_X8_abs : GoodIn wsX8_times (va_wsS RX8 141 yX8_abs wsX8_abs) := goodIn_app (goodIn_of _ (by decide +kernel)) ggX8_times_X8_abs
theorem dX8_times_0 : decode cX8_times 0 = .ok (.aload_n 0, 1) := by decide +kernel
theorem dX8_times_1 : decode cX8_times 1 = .ok (.iconst 0, 1) := by decide +kernel
theorem dX8_times_2 : decode cX8_times 2 = .ok (.putfield 77, 3) := by decide +kernel
theorem dX8_times_5 : decode cX8_times 5 = .ok (.aload_n 0, 1) := by decide +kernel
theorem dX8_times_6 : decode cX8_times 6 = .ok (.invokevirtual 203, 3) := by decide +kernel
theorem dX8_times_9 : decode cX8_times 9 = .ok (.aload_n 0, 1) := by decide +kernel
theorem dX8_times_10 : decode cX8_times 10 = .ok (.aload_n 0, 1) := by decide +kernel
theorem dX8_times_11 : decode cX8_times 11 = .ok (.getfield 107, 3) := by decide +kernel
theorem dX8_times_14 : decode cX8_times 14 = .ok (.invokevirtual 206, 3) := by decide +kernel
theorem dX8_times_17 : decode cX8_times 17 = .ok (.ifCond .ne 5, 3) := by decide +kernel
theorem dX8_times_20 : decode cX8_times 20 = .ok (.iconst (-1), 1) := by decide +kernel
theorem dX8_times_21 : decode cX8_times 21 = .ok (.ireturn, 1) := by decide +kernel
theorem dX8_times_22 : decode cX8_times 22 = .ok (.sipush 999, 3) := by decide +kernel
theorem dX8_times_25 : decode cX8_times 25 = .ok (.istore_n 1, 1) := by decide +kernel
theorem dX8_times_26 : decode cX8_times 26 = .ok (.iconst 0, 1) := by decide +kernel
theorem dX8_times_27 : decode cX8_times 27 = .ok (.istore_n 2, 1) := by decide +kernel
theorem dX8_times_28 : decode cX8_times 28 = .ok (.iload_n 2, 1) := by decide +kernel
theorem dX8_times_29 : decode cX8_times 29 = .ok (.aload_n 0, 1) := by decide +kernel
theorem dX8_times_30 : decode cX8_times 30 = .ok (.getfield 88, 3) := by decide +kernel
theorem dX8_times_33 : decode cX8_times 33 = .ok (.if_icmp .ge 63, 3) := by decide +kernel
theorem dX8_times_36 : decode cX8_times 36 = .ok (.aload_n 0, 1) := by decide +kernel
theorem dX8_times_37 : decode cX8_times 37 = .ok (.getfield 53, 3) := by decide +kernel
theorem dX8_times_40 : decode cX8_times 40 = .ok (.iload_n 2, 1) := by decide +kernel
theorem dX8_times_41 : decode cX8_times 41 = .ok (.laload, 1) := by decide +kernel
theorem dX8_times_42 : decode cX8_times 42 = .ok (.invokestatic 141, 3) := by decide +kernel
theorem dX8_times_45 : decode cX8_times 45 = .ok (.aload_n 0, 1) := by decide +kernel
theorem dX8_times_46 : decode cX8_times 46 = .ok (.getfield 189, 3) := by decide +kernel
theorem dX8_times_49 : decode cX8_times 49 = .ok (.ladd, 1) := by decide +kernel
theorem dX8_times_50 : decode cX8_times 50 = .ok (.lconst 1, 1) := by decide +kernel
theorem dX8_times_51 : decode cX8_times 51 = .ok (.lsub, 1) := by decide +kernel
theorem dX8_times_52 : decode cX8_times 52 = .ok (.aload_n 0, 1) := by decide +kernel
theorem dX8_times_53 : decode cX8_times 53 = .ok (.getfield 189, 3) := by decide +kernel
theorem dX8_times_56 : decode cX8_times 56 = .ok (.ldiv, 1) := by decide +kernel
theorem dX8_times_57 : decode cX8_times 57 = .ok (.lstore_n 3, 1) := by decide +kernel
theorem dX8_times_58 : decode cX8_times 58 = .ok (.lload_n 3, 1) := by decide +kernel
theorem dX8_times_59 : decode cX8_times 59 = .ok (.lconst 0, 1) := by decide +kernel
theorem dX8_times_60 : decode cX8_times 60 = .ok (.lcmp, 1) := by decide +kernel
theorem dX8_times_61 : decode cX8_times 61 = .ok (.ifCond .le 29, 3) := by decide +kernel
theorem dX8_times_64 : decode cX8_times 64 = .ok (.aload_n 0, 1) := by decide +kernel
theorem dX8_times_65 : decode cX8_times 65 = .ok (.getfield 31, 3) := by decide +kernel
theorem dX8_times_68 : decode cX8_times 68 = .ok (.iload_n 2, 1) := by decide +kernel
theorem dX8_times_69 : decode cX8_times 69 = .ok (.iaload, 1) := by decide +kernel
theorem dX8_times_70 : decode cX8_times 70 = .ok (.i2l, 1) := by decide +kernel
theorem dX8_times_71 : decode cX8_times 71 = .ok (.lload_n 3, 1) := by decide +kernel
theorem dX8_times_72 : decode cX8_times 72 = .ok (.ldiv, 1) := by decide +kernel
theorem dX8_times_73 : decode cX8_times 73 = .ok (.iload_n 1, 1) := by decide +kernel
theorem dX8_times_74 : decode cX8_times 74 = .ok (.i2l, 1) := by decide +kernel
theorem dX8_times_75 : decode cX8_times 75 = .ok (.lcmp, 1) := by decide +kernel
theorem dX8_times_76 : decode cX8_times 76 = .ok (.ifCond .ge 14, 3) := by decide +kernel
theorem dX8_times_79 : decode cX8_times 79 = .ok (.aload_n 0, 1) := by decide +kernel
theorem dX8_times_80 : decode cX8_times 80 = .ok (.getfield 31, 3) := by decide +kernel
theorem dX8_times_83 : decode cX8_times 83 = .ok (.iload_n 2, 1) := by decide +kernel
theorem dX8_times_84 : decode cX8_times 84 = .ok (.iaload, 1) := by decide +kernel
theorem dX8_times_85 : decode cX8_times 85 = .ok (.i2l, 1) := by decide +kernel
theorem dX8_times_86 : decode cX8_times 86 = .ok (.lload_n 3, 1) := by decide +kernel
theorem dX8_times_87 : decode cX8_times 87 = .ok (.ldiv, 1) := by decide +kernel
theorem dX8_times_88 : decode cX8_times 88 = .ok (.l2i, 1) := by decide +kernel
theorem dX8_times_89 : decode cX8_times 89 = .ok (.istore_n 1, 1) := by decide +kernel
theorem dX8_times_90 : decode cX8_times 90 = .ok (.iinc 2 1, 3) := by decide +kernel
theorem dX8_times_93 : decode cX8_times 93 = .ok (.goto (-65), 3) := by decide +kernel
theorem dX8_times_96 : decode cX8_times 96 = .ok (.iload_n 1, 1) := by decide +kernel
theorem dX8_times_97 : decode cX8_times 97 = .ok (.ireturn, 1) := by decide +kernel
set_option maxRecDepth 20000 in
theorem ggX8_isRide_X8_in : GoodIn wsX8_isRide wsX8_in := goodIn_r _ [6] (by decide +kernel) (by decide +kernel)
set_option maxRecDepth 20000 in
theorem gX8_isRide_X8_in : GoodIn wsX8_isRide (va_wsS RX8 84 yX8_in wsX8_in) := goodIn_app (goodIn_of _ (by decide +kernel)) ggX8_isRide_X8_in
theorem dX8_isRide_0 : decode cX8_isRide 0 = .ok (.aload_n 0, 1) := by decide +kernel
theorem dX8_isRide_1 : decode cX8_isRide 1 = .ok (.getfield 122, 3) := by decide +kernel
theorem dX8_isRide_4 : decode cX8_isRide 4 = .ok (.ifCond .le 35, 3) := by decide +kernel
theorem dX8_isRide_7 : decode cX8_isRide 7 = .ok (.aload_n 0, 1) := by decide +kernel
theorem dX8_isRide_8 : decode cX8_isRide 8 = .ok (.getfield 127, 3) := by decide +kernel
theorem dX8_isRide_11 : decode cX8_isRide 11 = .ok (.ifCond .le 28, 3) := by decide +kernel
theorem dX8_isRide_14 : decode cX8_isRide 14 = .ok (.iload_n 1, 1) := by decide +kernel
theorem dX8_isRide_15 : decode cX8_isRide 15 = .ok (.i2l, 1) := by decide +kernel
theorem dX8_isRide_16 : decode cX8_isRide 16 = .ok (.lconst 0, 1) := by decide +kernel
theorem dX8_isRide_17 : decode cX8_isRide 17 = .ok (.aload_n 0, 1) := by decide +kernel
theorem dX8_isRide_18 : decode cX8_isRide 18 = .ok (.getfield 122, 3) := by decide +kernel
theorem dX8_isRide_21 : decode cX8_isRide 21 = .ok (.aload_n 0, 1) := by decide +kernel
theorem dX8_isRide_22 : decode cX8_isRide 22 = .ok (.getfield 127, 3) := by decide +kernel
theorem dX8_isRide_25 : decode cX8_isRide 25 = .ok (.iadd, 1) := by decide +kernel
theorem dX8_isRide_26 : decode cX8_isRide 26 = .ok (.iconst 2, 1) := by decide +kernel
theorem dX8_isRide_27 : decode cX8_isRide 27 = .ok (.isub, 1) := by decide +kernel
theorem dX8_isRide_28 : decode cX8_isRide 28 = .ok (.i2l, 1) := by decide +kernel
theorem dX8_isRide_29 : decode cX8_isRide 29 = .ok (.invokestatic 84, 3) := by decide +kernel
theorem dX8_isRide_32 : decode cX8_isRide 32 = .ok (.ifCond .eq 7, 3) := by decide +kernel
theorem dX8_isRide_35 : decode cX8_isRide 35 = .ok (.iconst 1, 1) := by decide +kernel
theorem dX8_isRide_36 : decode cX8_isRide 36 = .ok (.goto 4, 3) := by decide +kernel
theorem dX8_isRide_39 : decode cX8_isRide 39 = .ok (.iconst 0, 1) := by decide +kernel
theorem dX8_isRide_40 : decode cX8_isRide 40 = .ok (.ireturn, 1) := by decide +kernel
set_option maxRecDepth 20000 in
theorem ggX8_rides_X8_takesNone : GoodIn wsX8_rides wsX8_takesNone := goodIn_r _ [10, 3, 14, 15, 16, 17, 18, 19, 20, 21, 22, 23, 24, 25, 26, 27, 28, 29, 30, 31, 32, 33, 34, 35, 36, 37, 38, 39, 40, 41, 42, 43, 44, 45, 46, 47, 48] (by decide +kernel) (by decide +kernel)
set_option maxRecDepth 20000 in
theorem gX8_rides_X8_takesNone : GoodIn wsX8_rides (wsV RX8 230 RX8 yX8_takesNone wsX8_takesNone) := goodIn_app (goodIn_of _ (by decide +kernel)) ggX8_rides_X8_takesNone
set_option maxRecDepth 20000 in
theorem ggX8_rides_X8_in : GoodIn wsX8_rides wsX8_in := goodIn_r _ [13] (by decide +kernel) (by decide +kernel)
set_option maxRecDepth 20000 in
theorem gX8_rides_X8_in : GoodIn wsX8_rides (va_wsS RX8 84 yX8_in wsX8_in) := goodIn_app (goodIn_of _ (by decide +kernel)) ggX8_rides_X8_in
theorem dX8_rides_0 : decode cX8_rides 0 = .ok (.aload_n 0, 1) := by decide +kernel
theorem dX8_rides_1 : decode cX8_rides 1 = .ok (.invokevirtual 230, 3) := by decide +kernel
theorem dX8_rides_4 : decode cX8_rides 4 = .ok (.iconst 0, 1) := by decide +kernel
theorem dX8_rides_5 : decode cX8_rides 5 = .ok (.istore_n 2, 1) := by decide +kernel
theorem dX8_rides_6 : decode cX8_rides 6 = .ok (.iload_n 2, 1) := by decide +kernel
theorem dX8_rides_7 : decode cX8_rides 7 = .ok (.aload_n 0, 1) := by decide +kernel
theorem dX8_rides_8 : decode cX8_rides 8 = .ok (.getfield 127, 3) := by decide +kernel
theorem dX8_rides_11 : decode cX8_rides 11 = .ok (.if_icmp .ge 51, 3) := by decide +kernel
theorem dX8_rides_14 : decode cX8_rides 14 = .ok (.iload_n 1, 1) := by decide +kernel
theorem dX8_rides_15 : decode cX8_rides 15 = .ok (.iload_n 2, 1) := by decide +kernel
theorem dX8_rides_16 : decode cX8_rides 16 = .ok (.isub, 1) := by decide +kernel
theorem dX8_rides_17 : decode cX8_rides 17 = .ok (.i2l, 1) := by decide +kernel
theorem dX8_rides_18 : decode cX8_rides 18 = .ok (.lconst 0, 1) := by decide +kernel
theorem dX8_rides_19 : decode cX8_rides 19 = .ok (.aload_n 0, 1) := by decide +kernel
theorem dX8_rides_20 : decode cX8_rides 20 = .ok (.getfield 122, 3) := by decide +kernel
theorem dX8_rides_23 : decode cX8_rides 23 = .ok (.iconst 1, 1) := by decide +kernel
theorem dX8_rides_24 : decode cX8_rides 24 = .ok (.isub, 1) := by decide +kernel
theorem dX8_rides_25 : decode cX8_rides 25 = .ok (.i2l, 1) := by decide +kernel
theorem dX8_rides_26 : decode cX8_rides 26 = .ok (.invokestatic 84, 3) := by decide +kernel
theorem dX8_rides_29 : decode cX8_rides 29 = .ok (.ifCond .eq 27, 3) := by decide +kernel
theorem dX8_rides_32 : decode cX8_rides 32 = .ok (.aload_n 0, 1) := by decide +kernel
theorem dX8_rides_33 : decode cX8_rides 33 = .ok (.getfield 56, 3) := by decide +kernel
theorem dX8_rides_36 : decode cX8_rides 36 = .ok (.iconst 2, 1) := by decide +kernel
theorem dX8_rides_37 : decode cX8_rides 37 = .ok (.aload_n 0, 1) := by decide +kernel
theorem dX8_rides_38 : decode cX8_rides 38 = .ok (.getfield 34, 3) := by decide +kernel
theorem dX8_rides_41 : decode cX8_rides 41 = .ok (.iload_n 1, 1) := by decide +kernel
theorem dX8_rides_42 : decode cX8_rides 42 = .ok (.iload_n 2, 1) := by decide +kernel
theorem dX8_rides_43 : decode cX8_rides 43 = .ok (.isub, 1) := by decide +kernel
theorem dX8_rides_44 : decode cX8_rides 44 = .ok (.iaload, 1) := by decide +kernel
theorem dX8_rides_45 : decode cX8_rides 45 = .ok (.imul, 1) := by decide +kernel
theorem dX8_rides_46 : decode cX8_rides 46 = .ok (.iconst 1, 1) := by decide +kernel
theorem dX8_rides_47 : decode cX8_rides 47 = .ok (.iadd, 1) := by decide +kernel
theorem dX8_rides_48 : decode cX8_rides 48 = .ok (.aload_n 0, 1) := by decide +kernel
theorem dX8_rides_49 : decode cX8_rides 49 = .ok (.getfield 37, 3) := by decide +kernel
theorem dX8_rides_52 : decode cX8_rides 52 = .ok (.iload_n 2, 1) := by decide +kernel
theorem dX8_rides_53 : decode cX8_rides 53 = .ok (.iaload, 1) := by decide +kernel
theorem dX8_rides_54 : decode cX8_rides 54 = .ok (.ineg, 1) := by decide +kernel
theorem dX8_rides_55 : decode cX8_rides 55 = .ok (.iastore, 1) := by decide +kernel
theorem dX8_rides_56 : decode cX8_rides 56 = .ok (.iinc 2 1, 3) := by decide +kernel
theorem dX8_rides_59 : decode cX8_rides 59 = .ok (.goto (-53), 3) := by decide +kernel
theorem dX8_rides_62 : decode cX8_rides 62 = .ok (.return_, 1) := by decide +kernel
set_option maxRecDepth 20000 in
theorem ggX8_riding_X8_isBar : GoodIn wsX8_riding wsX8_isBar := goodIn_r _ [9, 10, 11, 12, 8, 13, 116, 117, 118, 119, 120, 121, 122, 123, 124, 125, 126, 127, 128, 129, 130, 131, 132, 133, 134, 135, 136, 137, 138, 139, 140, 141, 142, 143, 144, 145, 146, 147, 148, 149, 150] (by decide +kernel) (by decide +kernel)
set_option maxRecDepth 20000 in
theorem gX8_riding_X8_isBar : GoodIn wsX8_riding (wsV RX8 110 RX8 yX8_isBar wsX8_isBar) := goodIn_app (goodIn_of _ (by decide +kernel)) ggX8_riding_X8_isBar
set_option maxRecDepth 20000 in
theorem ggX8_riding_X8_isOn : GoodIn wsX8_riding wsX8_isOn := goodIn_r _ [16] (by decide +kernel) (by decide +kernel)
set_option maxRecDepth 20000 in
theorem gX8_riding_X8_isOn : GoodIn wsX8_riding (va_wsS RX8 113 yX8_isOn wsX8_isOn) := goodIn_app (goodIn_of _ (by decide +kernel)) ggX8_riding_X8_isOn
set_option maxRecDepth 20000 in
theorem ggX8_riding_X8_isRide : GoodIn wsX8_riding wsX8_isRide := goodIn_r _ [20, 21, 22, 11, 12, 8, 13, 116, 117, 118, 119, 120, 121, 122, 123, 124, 125, 126, 127, 128, 129, 130, 131, 132, 133, 134, 135, 136, 137, 138, 139, 140, 141, 142, 143, 144, 145, 146, 147, 148, 149, 150] (by decide +kernel) (by decide +kernel)
set_option maxRecDepth 20000 in
theorem gX8_riding_X8_isRide : GoodIn wsX8_riding (wsV RX8 262 RX8 yX8_isRide wsX8_isRide) := goodIn_app (goodIn_of _ (by decide +kernel)) ggX8_riding_X8_isRide
set_option maxRecDepth 20000 in
theorem ggX8_riding_X8_rides : GoodIn wsX8_riding wsX8_rides := goodIn_r _ [26, 22, 21, 27, 28, 29, 30, 31, 32, 8, 33, 11, 12, 13, 116, 117, 118, 119, 120, 121, 122, 123, 124, 125, 126, 127, 128, 129, 130, 131, 132, 133, 134, 135, 136, 137, 138, 139, 140, 141, 142, 143, 144, 145, 146, 147, 148, 149, 150] (by decide +kernel) (by decide +kernel)
set_option maxRecDepth 20000 in
theorem gX8_riding_X8_rides : GoodIn wsX8_riding (wsV RX8 265 RX8 yX8_rides wsX8_rides) := goodIn_app (goodIn_of _ (by decide +kernel)) ggX8_riding_X8_rides
set_option maxRecDepth 20000 in
theorem ggX8_riding_X8_bears : GoodIn wsX8_riding wsX8_bears := goodIn_r _ [37, 4, 3, 10, 38, 39, 40, 41, 8, 42, 43, 44, 45, 46, 47, 48, 49, 50, 51, 52, 53, 54, 55, 56, 57, 14, 15, 16, 58, 59, 60, 61, 62, 63, 64, 65, 66, 67, 68, 69, 70, 71, 72, 73, 74, 75, 76, 77, 78, 79, 80, 81, 82, 83, 84, 85, 86, 87, 88, 89, 90, 91, 92, 93, 94, 27, 95, 96, 97, 98, 99, 100, 101, 102, 103, 104, 105, 106, 107, 108, 109, 110, 111, 116, 117, 118, 119, 120, 121, 122, 123, 124, 125, 126, 127, 128, 129, 130, 131, 132, 133, 134, 135, 136, 137, 138, 139, 140, 141, 142, 143, 144, 145, 146, 147, 148, 149, 150] (by decide +kernel) (by decide +kernel)
set_option maxRecDepth 20000 in
theorem gX8_riding_X8_bears : GoodIn wsX8_riding (wsV RX8 206 RX8 yX8_bears wsX8_bears) := goodIn_app (goodIn_of _ (by decide +kernel)) ggX8_riding_X8_bears
set_option maxRecDepth 20000 in
theorem ggX8_riding_X8_told : GoodIn wsX8_riding wsX8_told := goodIn_r _ [114, 115, 74, 75, 8, 76, 77, 78, 79] (by decide +kernel) (by decide +kernel)
set_option maxRecDepth 20000 in
theorem gX8_riding_X8_told : GoodIn wsX8_riding (va_wsS RX8 209 yX8_told wsX8_told) := goodIn_app (goodIn_of _ (by decide +kernel)) ggX8_riding_X8_told
theorem dX8_riding_0 : decode cX8_riding 0 = .ok (.aload_n 0, 1) := by decide +kernel
theorem dX8_riding_1 : decode cX8_riding 1 = .ok (.iconst 1, 1) := by decide +kernel
theorem dX8_riding_2 : decode cX8_riding 2 = .ok (.putfield 77, 3) := by decide +kernel
theorem dX8_riding_5 : decode cX8_riding 5 = .ok (.aload_n 0, 1) := by decide +kernel
theorem dX8_riding_6 : decode cX8_riding 6 = .ok (.iload_n 1, 1) := by decide +kernel
theorem dX8_riding_7 : decode cX8_riding 7 = .ok (.invokevirtual 110, 3) := by decide +kernel
theorem dX8_riding_10 : decode cX8_riding 10 = .ok (.ifCond .eq 22, 3) := by decide +kernel
theorem dX8_riding_13 : decode cX8_riding 13 = .ok (.aload_n 0, 1) := by decide +kernel
theorem dX8_riding_14 : decode cX8_riding 14 = .ok (.getfield 107, 3) := by decide +kernel
theorem dX8_riding_17 : decode cX8_riding 17 = .ok (.iload_n 1, 1) := by decide +kernel
theorem dX8_riding_18 : decode cX8_riding 18 = .ok (.invokestatic 113, 3) := by decide +kernel
theorem dX8_riding_21 : decode cX8_riding 21 = .ok (.ifCond .eq 11, 3) := by decide +kernel
theorem dX8_riding_24 : decode cX8_riding 24 = .ok (.aload_n 0, 1) := by decide +kernel
theorem dX8_riding_25 : decode cX8_riding 25 = .ok (.iload_n 2, 1) := by decide +kernel
theorem dX8_riding_26 : decode cX8_riding 26 = .ok (.invokevirtual 262, 3) := by decide +kernel
theorem dX8_riding_29 : decode cX8_riding 29 = .ok (.ifCond .ne 5, 3) := by decide +kernel
theorem dX8_riding_32 : decode cX8_riding 32 = .ok (.lconst 0, 1) := by decide +kernel
theorem dX8_riding_33 : decode cX8_riding 33 = .ok (.lreturn, 1) := by decide +kernel
theorem dX8_riding_34 : decode cX8_riding 34 = .ok (.aload_n 0, 1) := by decide +kernel
theorem dX8_riding_35 : decode cX8_riding 35 = .ok (.iload_n 2, 1) := by decide +kernel
theorem dX8_riding_36 : decode cX8_riding 36 = .ok (.invokevirtual 265, 3) := by decide +kernel
theorem dX8_riding_39 : decode cX8_riding 39 = .ok (.aload_n 0, 1) := by decide +kernel
theorem dX8_riding_40 : decode cX8_riding 40 = .ok (.aload_n 0, 1) := by decide +kernel
theorem dX8_riding_41 : decode cX8_riding 41 = .ok (.aload_n 0, 1) := by decide +kernel
theorem dX8_riding_42 : decode cX8_riding 42 = .ok (.getfield 107, 3) := by decide +kernel
theorem dX8_riding_45 : decode cX8_riding 45 = .ok (.invokevirtual 206, 3) := by decide +kernel
theorem dX8_riding_48 : decode cX8_riding 48 = .ok (.ifCond .eq 7, 3) := by decide +kernel
theorem dX8_riding_51 : decode cX8_riding 51 = .ok (.iconst 0, 1) := by decide +kernel
theorem dX8_riding_52 : decode cX8_riding 52 = .ok (.goto 4, 3) := by decide +kernel
theorem dX8_riding_55 : decode cX8_riding 55 = .ok (.iconst 1, 1) := by decide +kernel
theorem dX8_riding_56 : decode cX8_riding 56 = .ok (.putfield 77, 3) := by decide +kernel
theorem dX8_riding_59 : decode cX8_riding 59 = .ok (.aload_n 0, 1) := by decide +kernel
theorem dX8_riding_60 : decode cX8_riding 60 = .ok (.getfield 77, 3) := by decide +kernel
theorem dX8_riding_63 : decode cX8_riding 63 = .ok (.ifCond .le 7, 3) := by decide +kernel
theorem dX8_riding_66 : decode cX8_riding 66 = .ok (.lconst 0, 1) := by decide +kernel
theorem dX8_riding_67 : decode cX8_riding 67 = .ok (.goto 17, 3) := by decide +kernel
theorem dX8_riding_70 : decode cX8_riding 70 = .ok (.aload_n 0, 1) := by decide +kernel
theorem dX8_riding_71 : decode cX8_riding 71 = .ok (.getfield 53, 3) := by decide +kernel
theorem dX8_riding_74 : decode cX8_riding 74 = .ok (.iload_n 1, 1) := by decide +kernel
theorem dX8_riding_75 : decode cX8_riding 75 = .ok (.laload, 1) := by decide +kernel
theorem dX8_riding_76 : decode cX8_riding 76 = .ok (.aload_n 0, 1) := by decide +kernel
theorem dX8_riding_77 : decode cX8_riding 77 = .ok (.getfield 189, 3) := by decide +kernel
theorem dX8_riding_80 : decode cX8_riding 80 = .ok (.iload_n 3, 1) := by decide +kernel
theorem dX8_riding_81 : decode cX8_riding 81 = .ok (.invokestatic 209, 3) := by decide +kernel
theorem dX8_riding_84 : decode cX8_riding 84 = .ok (.lreturn, 1) := by decide +kernel
set_option maxRecDepth 20000 in
theorem ggX8_worst_X8_isBar : GoodIn wsX8_worst wsX8_isBar := goodIn_r _ [8, 9, 10, 11, 7, 12, 112, 113, 114, 115, 116, 117, 118, 119, 120, 121, 122, 123, 124, 125, 126, 127, 128, 129, 130, 131, 132, 133, 134, 135, 136, 137, 138, 139, 140, 141, 142, 143, 144, 145, 146] (by decide +kernel) (by decide +kernel)
set_option maxRecDepth 20000 in
theorem gX8_worst_X8_isBar : GoodIn wsX8_worst (wsV RX8 110 RX8 yX8_isBar wsX8_isBar) := goodIn_app (goodIn_of _ (by decide +kernel)) ggX8_worst_X8_isBar
set_option maxRecDepth 20000 in
theorem ggX8_worst_X8_isOn : GoodIn wsX8_worst wsX8_isOn := goodIn_r _ [15] (by decide +kernel) (by decide +kernel)
set_option maxRecDepth 20000 in
theorem gX8_worst_X8_isOn : GoodIn wsX8_worst (va_wsS RX8 113 yX8_isOn wsX8_isOn) := goodIn_app (goodIn_of _ (by decide +kernel)) ggX8_worst_X8_isOn
set_option maxRecDepth 20000 in
theorem ggX8_worst_X8_isRide : GoodIn wsX8_worst wsX8_isRide := goodIn_r _ [19, 20, 21, 10, 11, 7, 12, 112, 113, 114, 115, 116, 117, 118, 119, 120, 121, 122, 123, 124, 125, 126, 127, 128, 129, 130, 131, 132, 133, 134, 135, 136, 137, 138, 139, 140, 141, 142, 143, 144, 145, 146] (by decide +kernel) (by decide +kernel)
set_option maxRecDepth 20000 in
theorem gX8_worst_X8_isRide : GoodIn wsX8_worst (wsV RX8 262 RX8 yX8_isRide wsX8_isRide) := goodIn_app (goodIn_of _ (by decide +kernel)) ggX8_worst_X8_isRide
set_option maxRecDepth 20000 in
theorem ggX8_worst_X8_rides : GoodIn wsX8_worst wsX8_rides := goodIn_r _ [25, 21, 20, 26, 27, 28, 29, 30, 31, 7, 32, 10, 11, 12, 112, 113, 114, 115, 116, 117, 118, 119, 120, 121, 122, 123, 124, 125, 126, 127, 128, 129, 130, 131, 132, 133, 134, 135, 136, 137, 138, 139, 140, 141, 142, 143, 144, 145, 146] (by decide +kernel) (by decide +kernel)
set_option maxRecDepth 20000 in
theorem gX8_worst_X8_rides : GoodIn wsX8_worst (wsV RX8 265 RX8 yX8_rides wsX8_rides) := goodIn_app (goodIn_of _ (by decide +kernel)) ggX8_worst_X8_rides
set_option maxRecDepth 20000 in
theorem ggX8_worst_X8_bears : GoodIn wsX8_worst wsX8_bears := goodIn_r _ [36, 37, 3, 9, 38, 39, 40, 41, 7, 42, 43, 44, 45, 46, 47, 48, 49, 50, 51, 52, 53, 54, 55, 56, 57, 13, 14, 15, 58, 59, 60, 61, 62, 63, 64, 65, 66, 67, 68, 69, 70, 71, 72, 73, 74, 75, 76, 77, 78, 79, 80, 81, 82, 83, 84, 85, 86, 87, 88, 89, 90, 91, 92, 93, 94, 26, 95, 96, 97, 98, 99, 100, 101, 102, 103, 104, 105, 106, 107, 108, 109, 110, 111, 112, 113, 114, 115, 116, 117, 118, 119, 120, 121, 122, 123, 124, 125, 126, 127, 128, 129, 130, 131, 132, 133, 134, 135, 136, 137, 138, 139, 140, 141, 142, 143, 144, 145, 146] (by decide +kernel) (by decide +kernel)
set_option maxRecDepth 20000 in
theorem gX8_worst_X8_bears : GoodIn wsX8_worst (wsV RX8 206 RX8 yX8_bears wsX8_bears) := goodIn_app (goodIn_of _ (by decide +kernel)) ggX8_worst_X8_bears
set_option maxRecDepth 20000 in
theorem ggX8_worst_X8_abs : GoodIn wsX8_worst wsX8_abs := goodIn_r _ [79] (by decide +kernel) (by decide +kernel)
set_option maxRecDepth 20000 in
theorem gX8_worst_X8_abs : GoodIn wsX8_worst (va_wsS RX8 141 yX8_abs wsX8_abs) := goodIn_app (goodIn_of _ (by decide +kernel)) ggX8_worst_X8_abs
theorem dX8_worst_0 : decode cX8_worst 0 = .ok (.aload_n 0, 1) := by decide +kernel
theorem dX8_worst_1 : decode cX8_worst 1 = .ok (.iconst 0, 1) := by decide +kernel
theorem dX8_worst_2 : decode cX8_worst 2 = .ok (.putfield 77, 3) := by decide +kernel
theorem dX8_worst_5 : decode cX8_worst 5 = .ok (.aload_n 0, 1) := by decide +kernel
theorem dX8_worst_6 : decode cX8_worst 6 = .ok (.iload_n 1, 1) := by decide +kernel
theorem dX8_worst_7 : decode cX8_worst 7 = .ok (.invokevirtual 110, 3) := by decide +kernel
theorem dX8_worst_10 : decode cX8_worst 10 = .ok (.ifCond .eq 22, 3) := by decide +kernel
theorem dX8_worst_13 : decode cX8_worst 13 = .ok (.aload_n 0, 1) := by decide +kernel
theorem dX8_worst_14 : decode cX8_worst 14 = .ok (.getfield 107, 3) := by decide +kernel
theorem dX8_worst_17 : decode cX8_worst 17 = .ok (.iload_n 1, 1) := by decide +kernel
theorem dX8_worst_18 : decode cX8_worst 18 = .ok (.invokestatic 113, 3) := by decide +kernel
theorem dX8_worst_21 : decode cX8_worst 21 = .ok (.ifCond .eq 11, 3) := by decide +kernel
theorem dX8_worst_24 : decode cX8_worst 24 = .ok (.aload_n 0, 1) := by decide +kernel
theorem dX8_worst_25 : decode cX8_worst 25 = .ok (.iconst 0, 1) := by decide +kernel
theorem dX8_worst_26 : decode cX8_worst 26 = .ok (.invokevirtual 262, 3) := by decide +kernel
theorem dX8_worst_29 : decode cX8_worst 29 = .ok (.ifCond .ne 5, 3) := by decide +kernel
theorem dX8_worst_32 : decode cX8_worst 32 = .ok (.iconst (-1), 1) := by decide +kernel
theorem dX8_worst_33 : decode cX8_worst 33 = .ok (.ireturn, 1) := by decide +kernel
theorem dX8_worst_34 : decode cX8_worst 34 = .ok (.iconst (-1), 1) := by decide +kernel
theorem dX8_worst_35 : decode cX8_worst 35 = .ok (.istore_n 2, 1) := by decide +kernel
theorem dX8_worst_36 : decode cX8_worst 36 = .ok (.lconst 0, 1) := by decide +kernel
theorem dX8_worst_37 : decode cX8_worst 37 = .ok (.lstore_n 3, 1) := by decide +kernel
theorem dX8_worst_38 : decode cX8_worst 38 = .ok (.iconst 0, 1) := by decide +kernel
theorem dX8_worst_39 : decode cX8_worst 39 = .ok (.istore 5, 2) := by decide +kernel
theorem dX8_worst_41 : decode cX8_worst 41 = .ok (.aload_n 0, 1) := by decide +kernel
theorem dX8_worst_42 : decode cX8_worst 42 = .ok (.iload 5, 2) := by decide +kernel
theorem dX8_worst_44 : decode cX8_worst 44 = .ok (.invokevirtual 262, 3) := by decide +kernel
theorem dX8_worst_47 : decode cX8_worst 47 = .ok (.ifCond .eq 60, 3) := by decide +kernel
theorem dX8_worst_50 : decode cX8_worst 50 = .ok (.aload_n 0, 1) := by decide +kernel
theorem dX8_worst_51 : decode cX8_worst 51 = .ok (.iload 5, 2) := by decide +kernel
theorem dX8_worst_53 : decode cX8_worst 53 = .ok (.invokevirtual 265, 3) := by decide +kernel
theorem dX8_worst_56 : decode cX8_worst 56 = .ok (.aload_n 0, 1) := by decide +kernel
theorem dX8_worst_57 : decode cX8_worst 57 = .ok (.aload_n 0, 1) := by decide +kernel
theorem dX8_worst_58 : decode cX8_worst 58 = .ok (.getfield 107, 3) := by decide +kernel
theorem dX8_worst_61 : decode cX8_worst 61 = .ok (.invokevirtual 206, 3) := by decide +kernel
theorem dX8_worst_64 : decode cX8_worst 64 = .ok (.ifCond .ne 5, 3) := by decide +kernel
theorem dX8_worst_67 : decode cX8_worst 67 = .ok (.iconst (-1), 1) := by decide +kernel
theorem dX8_worst_68 : decode cX8_worst 68 = .ok (.ireturn, 1) := by decide +kernel
theorem dX8_worst_69 : decode cX8_worst 69 = .ok (.iload_n 2, 1) := by decide +kernel
theorem dX8_worst_70 : decode cX8_worst 70 = .ok (.iconst (-1), 1) := by decide +kernel
theorem dX8_worst_71 : decode cX8_worst 71 = .ok (.if_icmp .eq 17, 3) := by decide +kernel
theorem dX8_worst_74 : decode cX8_worst 74 = .ok (.aload_n 0, 1) := by decide +kernel
theorem dX8_worst_75 : decode cX8_worst 75 = .ok (.getfield 53, 3) := by decide +kernel
theorem dX8_worst_78 : decode cX8_worst 78 = .ok (.iload_n 1, 1) := by decide +kernel
theorem dX8_worst_79 : decode cX8_worst 79 = .ok (.laload, 1) := by decide +kernel
theorem dX8_worst_80 : decode cX8_worst 80 = .ok (.invokestatic 141, 3) := by decide +kernel
theorem dX8_worst_83 : decode cX8_worst 83 = .ok (.lload_n 3, 1) := by decide +kernel
theorem dX8_worst_84 : decode cX8_worst 84 = .ok (.lcmp, 1) := by decide +kernel
theorem dX8_worst_85 : decode cX8_worst 85 = .ok (.ifCond .le 16, 3) := by decide +kernel
theorem dX8_worst_88 : decode cX8_worst 88 = .ok (.iload 5, 2) := by decide +kernel
theorem dX8_worst_90 : decode cX8_worst 90 = .ok (.istore_n 2, 1) := by decide +kernel
theorem dX8_worst_91 : decode cX8_worst 91 = .ok (.aload_n 0, 1) := by decide +kernel
theorem dX8_worst_92 : decode cX8_worst 92 = .ok (.getfield 53, 3) := by decide +kernel
theorem dX8_worst_95 : decode cX8_worst 95 = .ok (.iload_n 1, 1) := by decide +kernel
theorem dX8_worst_96 : decode cX8_worst 96 = .ok (.laload, 1) := by decide +kernel
theorem dX8_worst_97 : decode cX8_worst 97 = .ok (.invokestatic 141, 3) := by decide +kernel
theorem dX8_worst_100 : decode cX8_worst 100 = .ok (.lstore_n 3, 1) := by decide +kernel
theorem dX8_worst_101 : decode cX8_worst 101 = .ok (.iinc 5 1, 3) := by decide +kernel
theorem dX8_worst_104 : decode cX8_worst 104 = .ok (.goto (-63), 3) := by decide +kernel
theorem dX8_worst_107 : decode cX8_worst 107 = .ok (.iload_n 2, 1) := by decide +kernel
theorem dX8_worst_108 : decode cX8_worst 108 = .ok (.ireturn, 1) := by decide +kernel
set_option maxRecDepth 20000 in
theorem ggX8_without_X8_isBar : GoodIn wsX8_without wsX8_isBar := goodIn_r _ [7, 8, 9, 10, 6, 11, 64, 65, 66, 67, 68, 69, 70, 71, 72, 73, 74, 75, 76, 77, 78, 79, 80, 81, 82, 83, 84, 85, 86, 87, 88, 89, 90, 91, 92, 93, 94, 95, 96, 97, 98] (by decide +kernel) (by decide +kernel)
set_option maxRecDepth 20000 in
theorem gX8_without_X8_isBar : GoodIn wsX8_without (wsV RX8 110 RX8 yX8_isBar wsX8_isBar) := goodIn_app (goodIn_of _ (by decide +kernel)) ggX8_without_X8_isBar
set_option maxRecDepth 20000 in
theorem ggX8_without_X8_isOn : GoodIn wsX8_without wsX8_isOn := goodIn_r _ [14] (by decide +kernel) (by decide +kernel)
set_option maxRecDepth 20000 in
theorem gX8_without_X8_isOn : GoodIn wsX8_without (va_wsS RX8 113 yX8_isOn wsX8_isOn) := goodIn_app (goodIn_of _ (by decide +kernel)) ggX8_without_X8_isOn
set_option maxRecDepth 20000 in
theorem ggX8_without_X8_kindOf : GoodIn wsX8_without wsX8_kindOf := goodIn_r _ [18, 19, 20, 21, 6, 22, 23, 24, 8, 25, 26, 27, 28, 29, 30, 31, 32, 33, 34, 12, 13, 14, 35, 36, 37, 38, 39, 40, 41, 42, 43, 44, 45, 46, 47, 48, 49, 50, 51, 52, 53, 54, 55, 56, 57, 58, 59, 60, 61, 62, 63, 64, 65, 66, 67, 68, 69, 70, 71, 72, 73, 74, 75, 76, 77, 78, 79, 80, 81, 82, 83, 84, 85, 86, 87, 88, 89, 90, 91, 92, 93, 94, 95, 96, 97, 98] (by decide +kernel) (by decide +kernel)
set_option maxRecDepth 20000 in
theorem gX8_without_X8_kindOf : GoodIn wsX8_without (wsV RX8 180 RX8 yX8_kindOf wsX8_kindOf) := goodIn_app (goodIn_of _ (by decide +kernel)) ggX8_without_X8_kindOf
theorem dX8_without_0 : decode cX8_without 0 = .ok (.aload_n 0, 1) := by decide +kernel
theorem dX8_without_1 : decode cX8_without 1 = .ok (.iconst 0, 1) := by decide +kernel
theorem dX8_without_2 : decode cX8_without 2 = .ok (.putfield 77, 3) := by decide +kernel
theorem dX8_without_5 : decode cX8_without 5 = .ok (.aload_n 0, 1) := by decide +kernel
theorem dX8_without_6 : decode cX8_without 6 = .ok (.iload_n 1, 1) := by decide +kernel
theorem dX8_without_7 : decode cX8_without 7 = .ok (.invokevirtual 110, 3) := by decide +kernel
theorem dX8_without_10 : decode cX8_without 10 = .ok (.ifCond .eq 31, 3) := by decide +kernel
theorem dX8_without_13 : decode cX8_without 13 = .ok (.aload_n 0, 1) := by decide +kernel
theorem dX8_without_14 : decode cX8_without 14 = .ok (.getfield 107, 3) := by decide +kernel
theorem dX8_without_17 : decode cX8_without 17 = .ok (.iload_n 1, 1) := by decide +kernel
theorem dX8_without_18 : decode cX8_without 18 = .ok (.invokestatic 113, 3) := by decide +kernel
theorem dX8_without_21 : decode cX8_without 21 = .ok (.ifCond .eq 20, 3) := by decide +kernel
theorem dX8_without_24 : decode cX8_without 24 = .ok (.aload_n 0, 1) := by decide +kernel
theorem dX8_without_25 : decode cX8_without 25 = .ok (.aload_n 0, 1) := by decide +kernel
theorem dX8_without_26 : decode cX8_without 26 = .ok (.getfield 107, 3) := by decide +kernel
theorem dX8_without_29 : decode cX8_without 29 = .ok (.iconst 1, 1) := by decide +kernel
theorem dX8_without_30 : decode cX8_without 30 = .ok (.iload_n 1, 1) := by decide +kernel
theorem dX8_without_31 : decode cX8_without 31 = .ok (.ishl, 1) := by decide +kernel
theorem dX8_without_32 : decode cX8_without 32 = .ok (.iconst (-1), 1) := by decide +kernel
theorem dX8_without_33 : decode cX8_without 33 = .ok (.ixor, 1) := by decide +kernel
theorem dX8_without_34 : decode cX8_without 34 = .ok (.iand, 1) := by decide +kernel
theorem dX8_without_35 : decode cX8_without 35 = .ok (.invokevirtual 180, 3) := by decide +kernel
theorem dX8_without_38 : decode cX8_without 38 = .ok (.goto 4, 3) := by decide +kernel
theorem dX8_without_41 : decode cX8_without 41 = .ok (.iconst (-1), 1) := by decide +kernel
theorem dX8_without_42 : decode cX8_without 42 = .ok (.ireturn, 1) := by decide +kernel
set_option maxRecDepth 20000 in
theorem ggX8_left_X8_takesLoads : GoodIn wsX8_left wsX8_takesLoads := goodIn_r _ [9, 10, 11, 105, 106, 107, 108, 109, 110, 111, 112, 113, 114, 115, 116, 117, 118, 119, 120, 121, 122, 123, 124, 125, 126, 127, 128, 129, 130, 131, 132, 133, 134, 135, 136, 137, 138, 139] (by decide +kernel) (by decide +kernel)
set_option maxRecDepth 20000 in
theorem gX8_left_X8_takesLoads : GoodIn wsX8_left (wsV RX8 203 RX8 yX8_takesLoads wsX8_takesLoads) := goodIn_app (goodIn_of _ (by decide +kernel)) ggX8_left_X8_takesLoads
set_option maxRecDepth 20000 in
theorem ggX8_left_X8_isBar : GoodIn wsX8_left wsX8_isBar := goodIn_r _ [15, 16, 17, 18, 8, 19, 105, 106, 107, 108, 109, 110, 111, 112, 113, 114, 115, 116, 117, 118, 119, 120, 121, 122, 123, 124, 125, 126, 127, 128, 129, 130, 131, 132, 133, 134, 135, 136, 137, 138, 139] (by decide +kernel) (by decide +kernel)
set_option maxRecDepth 20000 in
theorem gX8_left_X8_isBar : GoodIn wsX8_left (wsV RX8 110 RX8 yX8_isBar wsX8_isBar) := goodIn_app (goodIn_of _ (by decide +kernel)) ggX8_left_X8_isBar
set_option maxRecDepth 20000 in
theorem ggX8_left_X8_isOn : GoodIn wsX8_left wsX8_isOn := goodIn_r _ [22] (by decide +kernel) (by decide +kernel)
set_option maxRecDepth 20000 in
theorem gX8_left_X8_isOn : GoodIn wsX8_left (va_wsS RX8 113 yX8_isOn wsX8_isOn) := goodIn_app (goodIn_of _ (by decide +kernel)) ggX8_left_X8_isOn
set_option maxRecDepth 20000 in
theorem ggX8_left_X8_bears : GoodIn wsX8_left wsX8_bears := goodIn_r _ [26, 4, 3, 16, 27, 28, 29, 30, 8, 31, 32, 33, 34, 35, 36, 37, 38, 39, 40, 41, 42, 43, 44, 45, 46, 20, 21, 22, 47, 48, 49, 50, 51, 52, 53, 54, 55, 56, 57, 58, 59, 60, 61, 62, 63, 64, 65, 66, 67, 68, 69, 70, 71, 72, 73, 74, 75, 76, 77, 78, 79, 80, 81, 82, 83, 10, 84, 85, 86, 87, 88, 89, 90, 91, 92, 93, 94, 95, 96, 97, 98, 99, 100, 105, 106, 107, 108, 109, 110, 111, 112, 113, 114, 115, 116, 117, 118, 119, 120, 121, 122, 123, 124, 125, 126, 127, 128, 129, 130, 131, 132, 133, 134, 135, 136, 137, 138, 139] (by decide +kernel) (by decide +kernel)
set_option maxRecDepth 20000 in
theorem gX8_left_X8_bears : GoodIn wsX8_left (wsV RX8 206 RX8 yX8_bears wsX8_bears) := goodIn_app (goodIn_of _ (by decide +kernel)) ggX8_left_X8_bears
set_option maxRecDepth 20000 in
theorem ggX8_left_X8_told : GoodIn wsX8_left wsX8_told := goodIn_r _ [103, 104, 63, 64, 8, 65, 66, 67, 68] (by decide +kernel) (by decide +kernel)
set_option maxRecDepth 20000 in
theorem gX8_left_X8_told : GoodIn wsX8_left (va_wsS RX8 209 yX8_told wsX8_told) := goodIn_app (goodIn_of _ (by decide +kernel)) ggX8_left_X8_told
theorem dX8_left_0 : decode cX8_left 0 = .ok (.aload_n 0, 1) := by decide +kernel
theorem dX8_left_1 : decode cX8_left 1 = .ok (.invokevirtual 203, 3) := by decide +kernel
theorem dX8_left_4 : decode cX8_left 4 = .ok (.aload_n 0, 1) := by decide +kernel
theorem dX8_left_5 : decode cX8_left 5 = .ok (.iload_n 1, 1) := by decide +kernel
theorem dX8_left_6 : decode cX8_left 6 = .ok (.invokevirtual 110, 3) := by decide +kernel
theorem dX8_left_9 : decode cX8_left 9 = .ok (.ifCond .eq 42, 3) := by decide +kernel
theorem dX8_left_12 : decode cX8_left 12 = .ok (.aload_n 0, 1) := by decide +kernel
theorem dX8_left_13 : decode cX8_left 13 = .ok (.iload_n 2, 1) := by decide +kernel
theorem dX8_left_14 : decode cX8_left 14 = .ok (.invokevirtual 110, 3) := by decide +kernel
theorem dX8_left_17 : decode cX8_left 17 = .ok (.ifCond .eq 34, 3) := by decide +kernel
theorem dX8_left_20 : decode cX8_left 20 = .ok (.iload_n 1, 1) := by decide +kernel
theorem dX8_left_21 : decode cX8_left 21 = .ok (.iload_n 2, 1) := by decide +kernel
theorem dX8_left_22 : decode cX8_left 22 = .ok (.if_icmp .eq 29, 3) := by decide +kernel
theorem dX8_left_25 : decode cX8_left 25 = .ok (.aload_n 0, 1) := by decide +kernel
theorem dX8_left_26 : decode cX8_left 26 = .ok (.getfield 107, 3) := by decide +kernel
theorem dX8_left_29 : decode cX8_left 29 = .ok (.iload_n 1, 1) := by decide +kernel
theorem dX8_left_30 : decode cX8_left 30 = .ok (.invokestatic 113, 3) := by decide +kernel
theorem dX8_left_33 : decode cX8_left 33 = .ok (.ifCond .eq 18, 3) := by decide +kernel
theorem dX8_left_36 : decode cX8_left 36 = .ok (.aload_n 0, 1) := by decide +kernel
theorem dX8_left_37 : decode cX8_left 37 = .ok (.getfield 107, 3) := by decide +kernel
theorem dX8_left_40 : decode cX8_left 40 = .ok (.iload_n 2, 1) := by decide +kernel
theorem dX8_left_41 : decode cX8_left 41 = .ok (.invokestatic 113, 3) := by decide +kernel
theorem dX8_left_44 : decode cX8_left 44 = .ok (.ifCond .eq 7, 3) := by decide +kernel
theorem dX8_left_47 : decode cX8_left 47 = .ok (.iconst 1, 1) := by decide +kernel
theorem dX8_left_48 : decode cX8_left 48 = .ok (.goto 4, 3) := by decide +kernel
theorem dX8_left_51 : decode cX8_left 51 = .ok (.iconst 0, 1) := by decide +kernel
theorem dX8_left_52 : decode cX8_left 52 = .ok (.istore 4, 2) := by decide +kernel
theorem dX8_left_54 : decode cX8_left 54 = .ok (.aload_n 0, 1) := by decide +kernel
theorem dX8_left_55 : decode cX8_left 55 = .ok (.iload 4, 2) := by decide +kernel
theorem dX8_left_57 : decode cX8_left 57 = .ok (.ifCond .eq 24, 3) := by decide +kernel
theorem dX8_left_60 : decode cX8_left 60 = .ok (.aload_n 0, 1) := by decide +kernel
theorem dX8_left_61 : decode cX8_left 61 = .ok (.aload_n 0, 1) := by decide +kernel
theorem dX8_left_62 : decode cX8_left 62 = .ok (.getfield 107, 3) := by decide +kernel
theorem dX8_left_65 : decode cX8_left 65 = .ok (.iconst 1, 1) := by decide +kernel
theorem dX8_left_66 : decode cX8_left 66 = .ok (.iload_n 1, 1) := by decide +kernel
theorem dX8_left_67 : decode cX8_left 67 = .ok (.ishl, 1) := by decide +kernel
theorem dX8_left_68 : decode cX8_left 68 = .ok (.iconst (-1), 1) := by decide +kernel
theorem dX8_left_69 : decode cX8_left 69 = .ok (.ixor, 1) := by decide +kernel
theorem dX8_left_70 : decode cX8_left 70 = .ok (.iand, 1) := by decide +kernel
theorem dX8_left_71 : decode cX8_left 71 = .ok (.invokevirtual 206, 3) := by decide +kernel
theorem dX8_left_74 : decode cX8_left 74 = .ok (.ifCond .eq 7, 3) := by decide +kernel
theorem dX8_left_77 : decode cX8_left 77 = .ok (.iconst 0, 1) := by decide +kernel
theorem dX8_left_78 : decode cX8_left 78 = .ok (.goto 4, 3) := by decide +kernel
theorem dX8_left_81 : decode cX8_left 81 = .ok (.iconst 1, 1) := by decide +kernel
theorem dX8_left_82 : decode cX8_left 82 = .ok (.putfield 77, 3) := by decide +kernel
theorem dX8_left_85 : decode cX8_left 85 = .ok (.aload_n 0, 1) := by decide +kernel
theorem dX8_left_86 : decode cX8_left 86 = .ok (.getfield 77, 3) := by decide +kernel
theorem dX8_left_89 : decode cX8_left 89 = .ok (.ifCond .le 7, 3) := by decide +kernel
theorem dX8_left_92 : decode cX8_left 92 = .ok (.lconst 0, 1) := by decide +kernel
theorem dX8_left_93 : decode cX8_left 93 = .ok (.goto 17, 3) := by decide +kernel
theorem dX8_left_96 : decode cX8_left 96 = .ok (.aload_n 0, 1) := by decide +kernel
theorem dX8_left_97 : decode cX8_left 97 = .ok (.getfield 53, 3) := by decide +kernel
theorem dX8_left_100 : decode cX8_left 100 = .ok (.iload_n 2, 1) := by decide +kernel
theorem dX8_left_101 : decode cX8_left 101 = .ok (.laload, 1) := by decide +kernel
theorem dX8_left_102 : decode cX8_left 102 = .ok (.aload_n 0, 1) := by decide +kernel
theorem dX8_left_103 : decode cX8_left 103 = .ok (.getfield 189, 3) := by decide +kernel
theorem dX8_left_106 : decode cX8_left 106 = .ok (.iload_n 3, 1) := by decide +kernel
theorem dX8_left_107 : decode cX8_left 107 = .ok (.invokestatic 209, 3) := by decide +kernel
theorem dX8_left_110 : decode cX8_left 110 = .ok (.lreturn, 1) := by decide +kernel
set_option maxRecDepth 20000 in
theorem ggX8_keys_X8_kindOf : GoodIn wsX8_keys wsX8_kindOf := goodIn_r _ [8, 9, 10, 11, 7, 12, 13, 14, 3, 15, 16, 17, 18, 19, 20, 21, 22, 23, 24, 25, 26, 27, 28, 29, 30, 31, 32, 33, 34, 35, 36, 37, 38, 39, 40, 41, 42, 43, 44, 45, 46, 47, 48, 49, 50, 51, 52, 53, 54, 55, 56, 57, 58, 59, 60, 61, 62, 63, 64, 65, 66, 67, 68, 69, 70, 71, 72, 73, 74, 75, 76, 77, 78, 79, 80, 81, 82, 83, 84, 85, 86, 87, 88, 89, 90, 91] (by decide +kernel) (by decide +kernel)
set_option maxRecDepth 20000 in
theorem gX8_keys_X8_kindOf : GoodIn wsX8_keys (wsV RX8 180 RX8 yX8_kindOf wsX8_kindOf) := goodIn_app (goodIn_of _ (by decide +kernel)) ggX8_keys_X8_kindOf
set_option maxRecDepth 20000 in
theorem ggX8_keys_X8_isOn : GoodIn wsX8_keys wsX8_isOn := goodIn_r _ [27] (by decide +kernel) (by decide +kernel)
set_option maxRecDepth 20000 in
theorem gX8_keys_X8_isOn : GoodIn wsX8_keys (va_wsS RX8 113 yX8_isOn wsX8_isOn) := goodIn_app (goodIn_of _ (by decide +kernel)) ggX8_keys_X8_isOn
theorem dX8_keys_0 : decode cX8_keys 0 = .ok (.aload_n 0, 1) := by decide +kernel
theorem dX8_keys_1 : decode cX8_keys 1 = .ok (.iconst 0, 1) := by decide +kernel
theorem dX8_keys_2 : decode cX8_keys 2 = .ok (.putfield 77, 3) := by decide +kernel
theorem dX8_keys_5 : decode cX8_keys 5 = .ok (.aload_n 0, 1) := by decide +kernel
theorem dX8_keys_6 : decode cX8_keys 6 = .ok (.aload_n 0, 1) := by decide +kernel
theorem dX8_keys_7 : decode cX8_keys 7 = .ok (.getfield 107, 3) := by decide +kernel
theorem dX8_keys_10 : decode cX8_keys 10 = .ok (.invokevirtual 180, 3) := by decide +kernel
theorem dX8_keys_13 : decode cX8_keys 13 = .ok (.ifCond .ne 5, 3) := by decide +kernel
theorem dX8_keys_16 : decode cX8_keys 16 = .ok (.iconst 0, 1) := by decide +kernel
theorem dX8_keys_17 : decode cX8_keys 17 = .ok (.ireturn, 1) := by decide +kernel
theorem dX8_keys_18 : decode cX8_keys 18 = .ok (.iconst 0, 1) := by decide +kernel
theorem dX8_keys_19 : decode cX8_keys 19 = .ok (.istore_n 1, 1) := by decide +kernel
theorem dX8_keys_20 : decode cX8_keys 20 = .ok (.iconst 0, 1) := by decide +kernel
theorem dX8_keys_21 : decode cX8_keys 21 = .ok (.istore_n 2, 1) := by decide +kernel
theorem dX8_keys_22 : decode cX8_keys 22 = .ok (.iload_n 2, 1) := by decide +kernel
theorem dX8_keys_23 : decode cX8_keys 23 = .ok (.aload_n 0, 1) := by decide +kernel
theorem dX8_keys_24 : decode cX8_keys 24 = .ok (.getfield 88, 3) := by decide +kernel
theorem dX8_keys_27 : decode cX8_keys 27 = .ok (.if_icmp .ge 47, 3) := by decide +kernel
theorem dX8_keys_30 : decode cX8_keys 30 = .ok (.iload_n 1, 1) := by decide +kernel
theorem dX8_keys_31 : decode cX8_keys 31 = .ok (.aload_n 0, 1) := by decide +kernel
theorem dX8_keys_32 : decode cX8_keys 32 = .ok (.getfield 107, 3) := by decide +kernel
theorem dX8_keys_35 : decode cX8_keys 35 = .ok (.iload_n 2, 1) := by decide +kernel
theorem dX8_keys_36 : decode cX8_keys 36 = .ok (.invokestatic 113, 3) := by decide +kernel
theorem dX8_keys_39 : decode cX8_keys 39 = .ok (.ifCond .eq 26, 3) := by decide +kernel
theorem dX8_keys_42 : decode cX8_keys 42 = .ok (.aload_n 0, 1) := by decide +kernel
theorem dX8_keys_43 : decode cX8_keys 43 = .ok (.aload_n 0, 1) := by decide +kernel
theorem dX8_keys_44 : decode cX8_keys 44 = .ok (.getfield 107, 3) := by decide +kernel
theorem dX8_keys_47 : decode cX8_keys 47 = .ok (.iconst 1, 1) := by decide +kernel
theorem dX8_keys_48 : decode cX8_keys 48 = .ok (.iload_n 2, 1) := by decide +kernel
theorem dX8_keys_49 : decode cX8_keys 49 = .ok (.ishl, 1) := by decide +kernel
theorem dX8_keys_50 : decode cX8_keys 50 = .ok (.iconst (-1), 1) := by decide +kernel
theorem dX8_keys_51 : decode cX8_keys 51 = .ok (.ixor, 1) := by decide +kernel
theorem dX8_keys_52 : decode cX8_keys 52 = .ok (.iand, 1) := by decide +kernel
theorem dX8_keys_53 : decode cX8_keys 53 = .ok (.invokevirtual 180, 3) := by decide +kernel
theorem dX8_keys_56 : decode cX8_keys 56 = .ok (.ifCond .ne 9, 3) := by decide +kernel
theorem dX8_keys_59 : decode cX8_keys 59 = .ok (.iconst 1, 1) := by decide +kernel
theorem dX8_keys_60 : decode cX8_keys 60 = .ok (.iload_n 2, 1) := by decide +kernel
theorem dX8_keys_61 : decode cX8_keys 61 = .ok (.ishl, 1) := by decide +kernel
theorem dX8_keys_62 : decode cX8_keys 62 = .ok (.goto 4, 3) := by decide +kernel
theorem dX8_keys_65 : decode cX8_keys 65 = .ok (.iconst 0, 1) := by decide +kernel
theorem dX8_keys_66 : decode cX8_keys 66 = .ok (.ior, 1) := by decide +kernel
theorem dX8_keys_67 : decode cX8_keys 67 = .ok (.istore_n 1, 1) := by decide +kernel
theorem dX8_keys_68 : decode cX8_keys 68 = .ok (.iinc 2 1, 3) := by decide +kernel
theorem dX8_keys_71 : decode cX8_keys 71 = .ok (.goto (-49), 3) := by decide +kernel
theorem dX8_keys_74 : decode cX8_keys 74 = .ok (.iload_n 1, 1) := by decide +kernel
theorem dX8_keys_75 : decode cX8_keys 75 = .ok (.ireturn, 1) := by decide +kernel
set_option maxRecDepth 20000 in
theorem ggX8_mend_X8_bits : GoodIn wsX8_mend wsX8_bits := goodIn_r _ [7] (by decide +kernel) (by decide +kernel)
set_option maxRecDepth 20000 in
theorem gX8_mend_X8_bits : GoodIn wsX8_mend (va_wsS RX8 165 yX8_bits wsX8_bits) := goodIn_app (goodIn_of _ (by decide +kernel)) ggX8_mend_X8_bits
set_option maxRecDepth 20000 in
theorem ggX8_mend_X8_kindOf : GoodIn wsX8_mend wsX8_kindOf := goodIn_r _ [11, 12, 13, 14, 6, 15, 16, 17, 2, 18, 19, 20, 21, 22, 23, 24, 25, 26, 27, 28, 29, 30, 31, 32, 33, 34, 35, 36, 37, 38, 39, 40, 41, 42, 43, 44, 45, 46, 47, 48, 49, 50, 51, 52, 53, 54, 55, 56, 4, 5, 7, 57, 58, 59, 60, 61, 62, 63, 64, 65, 66, 67, 68, 69, 70, 71, 72, 73, 74, 75, 76, 77, 78, 79, 80, 81, 82, 83, 84, 85, 86, 87, 88, 89, 90, 91] (by decide +kernel) (by decide +kernel)
set_option maxRecDepth 20000 in
theorem gX8_mend_X8_kindOf : GoodIn wsX8_mend (wsV RX8 180 RX8 yX8_kindOf wsX8_kindOf) := goodIn_app (goodIn_of _ (by decide +kernel)) ggX8_mend_X8_kindOf
theorem dX8_mend_0 : decode cX8_mend 0 = .ok (.aload_n 0, 1) := by decide +kernel
theorem dX8_mend_1 : decode cX8_mend 1 = .ok (.iconst 0, 1) := by decide +kernel
theorem dX8_mend_2 : decode cX8_mend 2 = .ok (.putfield 77, 3) := by decide +kernel
theorem dX8_mend_5 : decode cX8_mend 5 = .ok (.iconst 1, 1) := by decide +kernel
theorem dX8_mend_6 : decode cX8_mend 6 = .ok (.aload_n 0, 1) := by decide +kernel
theorem dX8_mend_7 : decode cX8_mend 7 = .ok (.getfield 88, 3) := by decide +kernel
theorem dX8_mend_10 : decode cX8_mend 10 = .ok (.ishl, 1) := by decide +kernel
theorem dX8_mend_11 : decode cX8_mend 11 = .ok (.iconst 1, 1) := by decide +kernel
theorem dX8_mend_12 : decode cX8_mend 12 = .ok (.isub, 1) := by decide +kernel
theorem dX8_mend_13 : decode cX8_mend 13 = .ok (.aload_n 0, 1) := by decide +kernel
theorem dX8_mend_14 : decode cX8_mend 14 = .ok (.getfield 107, 3) := by decide +kernel
theorem dX8_mend_17 : decode cX8_mend 17 = .ok (.iconst (-1), 1) := by decide +kernel
theorem dX8_mend_18 : decode cX8_mend 18 = .ok (.ixor, 1) := by decide +kernel
theorem dX8_mend_19 : decode cX8_mend 19 = .ok (.iand, 1) := by decide +kernel
theorem dX8_mend_20 : decode cX8_mend 20 = .ok (.istore_n 2, 1) := by decide +kernel
theorem dX8_mend_21 : decode cX8_mend 21 = .ok (.iconst (-1), 1) := by decide +kernel
theorem dX8_mend_22 : decode cX8_mend 22 = .ok (.istore_n 3, 1) := by decide +kernel
theorem dX8_mend_23 : decode cX8_mend 23 = .ok (.iconst 0, 1) := by decide +kernel
theorem dX8_mend_24 : decode cX8_mend 24 = .ok (.istore 4, 2) := by decide +kernel
theorem dX8_mend_26 : decode cX8_mend 26 = .ok (.iload 4, 2) := by decide +kernel
theorem dX8_mend_28 : decode cX8_mend 28 = .ok (.iload_n 2, 1) := by decide +kernel
theorem dX8_mend_29 : decode cX8_mend 29 = .ok (.if_icmp .gt 52, 3) := by decide +kernel
theorem dX8_mend_32 : decode cX8_mend 32 = .ok (.iload 4, 2) := by decide +kernel
theorem dX8_mend_34 : decode cX8_mend 34 = .ok (.iload_n 2, 1) := by decide +kernel
theorem dX8_mend_35 : decode cX8_mend 35 = .ok (.iconst (-1), 1) := by decide +kernel
theorem dX8_mend_36 : decode cX8_mend 36 = .ok (.ixor, 1) := by decide +kernel
theorem dX8_mend_37 : decode cX8_mend 37 = .ok (.iand, 1) := by decide +kernel
theorem dX8_mend_38 : decode cX8_mend 38 = .ok (.ifCond .ne 37, 3) := by decide +kernel
theorem dX8_mend_41 : decode cX8_mend 41 = .ok (.iload_n 3, 1) := by decide +kernel
theorem dX8_mend_42 : decode cX8_mend 42 = .ok (.iconst (-1), 1) := by decide +kernel
theorem dX8_mend_43 : decode cX8_mend 43 = .ok (.if_icmp .eq 15, 3) := by decide +kernel
theorem dX8_mend_46 : decode cX8_mend 46 = .ok (.iload 4, 2) := by decide +kernel
theorem dX8_mend_48 : decode cX8_mend 48 = .ok (.invokestatic 165, 3) := by decide +kernel
theorem dX8_mend_51 : decode cX8_mend 51 = .ok (.iload_n 3, 1) := by decide +kernel
theorem dX8_mend_52 : decode cX8_mend 52 = .ok (.invokestatic 165, 3) := by decide +kernel
theorem dX8_mend_55 : decode cX8_mend 55 = .ok (.if_icmp .ge 20, 3) := by decide +kernel
theorem dX8_mend_58 : decode cX8_mend 58 = .ok (.aload_n 0, 1) := by decide +kernel
theorem dX8_mend_59 : decode cX8_mend 59 = .ok (.aload_n 0, 1) := by decide +kernel
theorem dX8_mend_60 : decode cX8_mend 60 = .ok (.getfield 107, 3) := by decide +kernel
theorem dX8_mend_63 : decode cX8_mend 63 = .ok (.iload 4, 2) := by decide +kernel
theorem dX8_mend_65 : decode cX8_mend 65 = .ok (.ior, 1) := by decide +kernel
theorem dX8_mend_66 : decode cX8_mend 66 = .ok (.invokevirtual 180, 3) := by decide +kernel
theorem dX8_mend_69 : decode cX8_mend 69 = .ok (.ifCond .eq 6, 3) := by decide +kernel
theorem dX8_mend_72 : decode cX8_mend 72 = .ok (.iload 4, 2) := by decide +kernel
theorem dX8_mend_74 : decode cX8_mend 74 = .ok (.istore_n 3, 1) := by decide +kernel
theorem dX8_mend_75 : decode cX8_mend 75 = .ok (.iinc 4 1, 3) := by decide +kernel
theorem dX8_mend_78 : decode cX8_mend 78 = .ok (.goto (-52), 3) := by decide +kernel
theorem dX8_mend_81 : decode cX8_mend 81 = .ok (.iload_n 3, 1) := by decide +kernel
theorem dX8_mend_82 : decode cX8_mend 82 = .ok (.iconst (-1), 1) := by decide +kernel
theorem dX8_mend_83 : decode cX8_mend 83 = .ok (.if_icmp .eq 7, 3) := by decide +kernel
theorem dX8_mend_86 : decode cX8_mend 86 = .ok (.iload_n 1, 1) := by decide +kernel
theorem dX8_mend_87 : decode cX8_mend 87 = .ok (.ifCond .eq 7, 3) := by decide +kernel
theorem dX8_mend_90 : decode cX8_mend 90 = .ok (.iload_n 3, 1) := by decide +kernel
theorem dX8_mend_91 : decode cX8_mend 91 = .ok (.goto 7, 3) := by decide +kernel
theorem dX8_mend_94 : decode cX8_mend 94 = .ok (.iload_n 3, 1) := by decide +kernel
theorem dX8_mend_95 : decode cX8_mend 95 = .ok (.invokestatic 165, 3) := by decide +kernel
theorem dX8_mend_98 : decode cX8_mend 98 = .ok (.ireturn, 1) := by decide +kernel
