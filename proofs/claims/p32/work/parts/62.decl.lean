set_option maxRecDepth 20000 in
theorem ggL_areStates_X7_count : GoodIn wsL_areStates wsX7_count := goodIn_r _ [5, 6, 7, 8, 9, 10, 11, 12, 13, 14, 15, 16, 17, 18, 19, 20, 21, 22, 23, 24, 25, 26, 27, 28, 29, 30, 31, 32, 33, 34, 35, 36, 37, 38, 4, 39, 40, 41, 42, 43, 44, 45, 46, 47, 48, 49, 50, 51, 52, 53, 54, 55, 56, 57, 58, 59, 60, 61, 62, 63, 64, 65, 66, 67, 68, 69, 70, 71, 72, 73, 74, 75, 76, 77, 78, 79, 80, 81, 82, 83, 84, 85, 86, 87, 88, 89, 90, 91, 92, 93, 94, 95, 96, 97, 98, 99, 100, 101, 102, 103, 104, 105, 106, 107, 108, 109, 110, 111, 112, 113, 114, 115, 116, 117, 118, 119, 120, 121, 122, 123, 124, 125, 126, 127, 292, 293, 294, 295, 296, 297, 298, 299, 300, 301, 302, 303, 304, 305, 306, 307, 308, 309, 310, 311, 312, 313, 314, 315, 316, 317, 318, 319, 320, 321, 322, 323, 324, 325, 326] (by decide +kernel) (by decide +kernel)
set_option maxRecDepth 20000 in
theorem gL_areStates_X7_count : GoodIn wsL_areStates (wsV RL 97 RX7 yX7_count wsX7_count) := goodIn_app (goodIn_of _ (by decide +kernel)) ggL_areStates_X7_count
set_option maxRecDepth 20000 in
theorem ggL_areStates_J6_bitCount_0f7a4 : GoodIn wsL_areStates wsJ6_bitCount_0f7a4 := goodIn_r _ [48, 49, 50, 51] (by decide +kernel) (by decide +kernel)
set_option maxRecDepth 20000 in
theorem gL_areStates_J6_bitCount_0f7a4 : GoodIn wsL_areStates (va_wsS RL 129 yJ6_bitCount_0f7a4 wsJ6_bitCount_0f7a4) := goodIn_app (goodIn_of _ (by decide +kernel)) ggL_areStates_J6_bitCount_0f7a4
set_option maxRecDepth 20000 in
theorem ggL_areStates_L_isOn : GoodIn wsL_areStates wsL_isOn := goodIn_r _ [132] (by decide +kernel) (by decide +kernel)
set_option maxRecDepth 20000 in
theorem gL_areStates_L_isOn : GoodIn wsL_areStates (va_wsS RL 104 yL_isOn wsL_isOn) := goodIn_app (goodIn_of _ (by decide +kernel)) ggL_areStates_L_isOn
set_option maxRecDepth 20000 in
theorem ggL_areStates_L_whole : GoodIn wsL_areStates wsL_whole := goodIn_r _ [135, 136] (by decide +kernel) (by decide +kernel)
set_option maxRecDepth 20000 in
theorem gL_areStates_L_whole : GoodIn wsL_areStates (va_wsS RL 100 yL_whole wsL_whole) := goodIn_app (goodIn_of _ (by decide +kernel)) ggL_areStates_L_whole
set_option maxRecDepth 20000 in
theorem ggL_areStates_L_state : GoodIn wsL_areStates wsL_state := goodIn_ca (goodIn_r _ [139, 140, 136, 141, 142, 143, 4, 144, 6, 9, 145, 146, 70, 147, 148, 149, 150, 32, 151, 35, 152, 153, 154, 155, 34, 38, 39, 156, 157, 158, 159, 75, 76, 77, 78, 79, 80, 81, 82, 83, 84, 85, 86, 87, 88, 89, 90, 91, 92, 93, 94, 95, 96, 97, 98, 99, 58, 59, 60, 61, 37, 36, 100, 101, 102, 103, 104, 105, 106, 107, 108, 109, 110, 111, 112, 113, 114, 115, 116, 117, 118, 119, 120, 121, 122, 123, 124, 125, 126, 127, 46, 47, 48, 49, 50, 51, 160, 161, 162, 163, 164, 165, 166, 167, 168, 169, 170, 171, 172, 173, 174, 175, 176, 177, 178, 179, 180, 181, 182, 183, 184, 185, 186, 187, 188, 189, 190, 191, 192, 193, 194, 195, 196, 197, 198, 199, 200, 201, 202, 203, 204, 205, 206, 207, 208, 209, 210, 211, 212, 213, 214, 215, 216, 217, 218, 219, 220, 221, 222, 223, 224, 225, 226, 227, 228, 229, 230, 231, 292, 293, 294, 295, 296, 297, 298, 299, 300, 301, 302, 303, 304, 305, 306, 307, 308, 318, 319, 320, 321, 322, 323, 324, 325, 326, 327, 328, 329, 330, 331, 332, 333, 334, 335] (by decide +kernel) (by decide +kernel)) (goodIn_sub (fun _ h => List.mem_cons_of_mem _ (List.mem_append_right _ h)) (by decide +kernel))
set_option maxRecDepth 20000 in
theorem gL_areStates_L_state : GoodIn wsL_areStates (va_wsS RL 134 yL_state wsL_state) := goodIn_app (goodIn_of _ (by decide +kernel)) ggL_areStates_L_state
set_option maxRecDepth 20000 in
theorem ggL_areStates_L_brings : GoodIn wsL_areStates wsL_brings := goodIn_r _ [234, 282, 283, 284, 285, 286, 287, 288, 289, 290, 291] (by decide +kernel) (by decide +kernel)
set_option maxRecDepth 20000 in
theorem gL_areStates_L_brings : GoodIn wsL_areStates (va_wsS RL 111 yL_brings wsL_brings) := goodIn_app (goodIn_of _ (by decide +kernel)) ggL_areStates_L_brings
set_option maxRecDepth 20000 in
theorem ggL_areStates_L_times : GoodIn wsL_areStates wsL_times := goodIn_r _ [237, 238, 239, 131, 240, 241, 225, 125, 226, 242, 243, 244, 136] (by decide +kernel) (by decide +kernel)
set_option maxRecDepth 20000 in
theorem gL_areStates_L_times : GoodIn wsL_areStates (va_wsS RL 115 yL_times wsL_times) := goodIn_app (goodIn_of _ (by decide +kernel)) ggL_areStates_L_times
set_option maxRecDepth 20000 in
theorem ggL_areStates_L_plus : GoodIn wsL_areStates wsL_plus := goodIn_r _ [247, 238, 239, 131, 240, 241, 225, 125, 226, 242, 243, 244, 136] (by decide +kernel) (by decide +kernel)
set_option maxRecDepth 20000 in
theorem gL_areStates_L_plus : GoodIn wsL_areStates (va_wsS RL 119 yL_plus wsL_plus) := goodIn_app (goodIn_of _ (by decide +kernel)) ggL_areStates_L_plus
set_option maxRecDepth 20000 in
theorem ggL_areStates_L_pull : GoodIn wsL_areStates wsL_pull := goodIn_ca (goodIn_r _ [250, 140, 136, 251, 252, 253, 4, 254, 6, 9, 145, 148, 149, 150, 32, 151, 35, 152, 153, 154, 155, 34, 38, 39, 156, 157, 158, 159, 70, 146, 75, 76, 77, 78, 79, 80, 81, 82, 83, 84, 85, 86, 87, 88, 89, 90, 91, 92, 93, 94, 95, 96, 97, 98, 99, 58, 59, 60, 61, 37, 36, 100, 101, 102, 103, 104, 105, 106, 107, 108, 109, 110, 111, 112, 113, 114, 115, 116, 117, 118, 119, 120, 121, 122, 123, 124, 125, 126, 127, 46, 47, 48, 49, 50, 51, 160, 161, 162, 163, 164, 165, 166, 167, 168, 169, 170, 171, 172, 173, 174, 175, 176, 177, 178, 179, 180, 181, 182, 183, 184, 185, 186, 187, 188, 189, 190, 191, 192, 193, 194, 195, 196, 197, 198, 199, 200, 201, 202, 203, 204, 206, 207, 208, 209, 210, 255, 256, 257, 258, 259, 260, 261, 262, 263, 264, 265, 266, 267, 268, 269, 270, 271, 212, 213, 214, 215, 216, 217, 218, 219, 220, 221, 222, 223, 224, 225, 226, 227, 228, 229, 230, 231, 292, 293, 294, 295, 296, 297, 298, 299, 300, 301, 302, 303, 304, 305, 306, 307, 308, 318, 319, 320, 321, 322, 323, 324, 325, 326, 327, 328, 329, 330, 331, 332, 333, 334, 335] (by decide +kernel) (by decide +kernel)) (goodIn_sub (fun _ h => List.mem_cons_of_mem _ (List.mem_append_right _ h)) (by decide +kernel))
set_option maxRecDepth 20000 in
theorem gL_areStates_L_pull : GoodIn wsL_areStates (va_wsS RL 108 yL_pull wsL_pull) := goodIn_app (goodIn_of _ (by decide +kernel)) ggL_areStates_L_pull
set_option maxRecDepth 20000 in
theorem ggL_areStates_L_spareAt : GoodIn wsL_areStates wsL_spareAt := goodIn_r _ [274, 1, 2, 3, 4, 5, 6, 7, 8, 9, 10, 11, 12, 13, 14, 15, 16, 17, 18, 19, 20, 21, 22, 23, 24, 25, 26, 27, 28, 29, 30, 31, 32, 33, 34, 35, 36, 37, 38, 39, 40, 41, 42, 43, 44, 45, 46, 47, 48, 49, 50, 51, 52, 53, 54, 55, 56, 57, 58, 59, 60, 61, 62, 63, 64, 65, 66, 67, 68, 69, 70, 71, 72, 73, 74, 75, 76, 77, 78, 79, 80, 81, 82, 83, 84, 85, 86, 87, 88, 89, 90, 91, 92, 93, 94, 95, 96, 97, 98, 99, 100, 101, 102, 103, 104, 105, 106, 107, 108, 109, 110, 111, 112, 113, 114, 115, 116, 117, 118, 119, 120, 121, 122, 123, 124, 125, 126, 127, 275, 276, 277, 278, 292, 293, 294, 295, 296, 297, 298, 299, 300, 301, 302, 303, 304, 305, 306, 307, 308, 309, 310, 311, 312, 313, 314, 315, 316, 317, 318, 319, 320, 321, 322, 323, 324, 325, 326] (by decide +kernel) (by decide +kernel)
set_option maxRecDepth 20000 in
theorem gL_areStates_L_spareAt : GoodIn wsL_areStates (va_wsS RL 136 yL_spareAt wsL_spareAt) := goodIn_app (goodIn_of _ (by decide +kernel)) ggL_areStates_L_spareAt
set_option maxRecDepth 20000 in
theorem ggL_areStates_L_isLeast : GoodIn wsL_areStates wsL_isLeast := goodIn_r _ [281, 238, 239, 131, 240, 241, 225, 125, 226] (by decide +kernel) (by decide +kernel)
set_option maxRecDepth 20000 in
theorem gL_areStates_L_isLeast : GoodIn wsL_areStates (va_wsS RL 125 yL_isLeast wsL_isLeast) := goodIn_app (goodIn_of _ (by decide +kernel)) ggL_areStates_L_isLeast
theorem dL_areStates_0 : decode cL_areStates 0 = .ok (.aload_n 0, 1) := by decide +kernel
theorem dL_areStates_1 : decode cL_areStates 1 = .ok (.bipush 6, 2) := by decide +kernel
theorem dL_areStates_3 : decode cL_areStates 3 = .ok (.invokevirtual 97, 3) := by decide +kernel
theorem dL_areStates_6 : decode cL_areStates 6 = .ok (.invokestatic 129, 3) := by decide +kernel
theorem dL_areStates_9 : decode cL_areStates 9 = .ok (.istore_n 2, 1) := by decide +kernel
theorem dL_areStates_10 : decode cL_areStates 10 = .ok (.iconst (-1), 1) := by decide +kernel
theorem dL_areStates_11 : decode cL_areStates 11 = .ok (.istore_n 3, 1) := by decide +kernel
theorem dL_areStates_12 : decode cL_areStates 12 = .ok (.iload_n 3, 1) := by decide +kernel
theorem dL_areStates_13 : decode cL_areStates 13 = .ok (.iload_n 2, 1) := by decide +kernel
theorem dL_areStates_14 : decode cL_areStates 14 = .ok (.if_icmp .ge 163, 3) := by decide +kernel
theorem dL_areStates_17 : decode cL_areStates 17 = .ok (.iconst 0, 1) := by decide +kernel
theorem dL_areStates_18 : decode cL_areStates 18 = .ok (.istore 4, 2) := by decide +kernel
theorem dL_areStates_20 : decode cL_areStates 20 = .ok (.iload 4, 2) := by decide +kernel
theorem dL_areStates_22 : decode cL_areStates 22 = .ok (.aload_n 1, 1) := by decide +kernel
theorem dL_areStates_23 : decode cL_areStates 23 = .ok (.getfield 47, 3) := by decide +kernel
theorem dL_areStates_26 : decode cL_areStates 26 = .ok (.if_icmp .ge 145, 3) := by decide +kernel
theorem dL_areStates_29 : decode cL_areStates 29 = .ok (.iconst 0, 1) := by decide +kernel
theorem dL_areStates_30 : decode cL_areStates 30 = .ok (.istore 5, 2) := by decide +kernel
theorem dL_areStates_32 : decode cL_areStates 32 = .ok (.iload 5, 2) := by decide +kernel
theorem dL_areStates_34 : decode cL_areStates 34 = .ok (.iconst 2, 1) := by decide +kernel
theorem dL_areStates_35 : decode cL_areStates 35 = .ok (.if_icmp .ge 130, 3) := by decide +kernel
theorem dL_areStates_38 : decode cL_areStates 38 = .ok (.aload_n 1, 1) := by decide +kernel
theorem dL_areStates_39 : decode cL_areStates 39 = .ok (.getfield 66, 3) := by decide +kernel
theorem dL_areStates_42 : decode cL_areStates 42 = .ok (.iload 4, 2) := by decide +kernel
theorem dL_areStates_44 : decode cL_areStates 44 = .ok (.iaload, 1) := by decide +kernel
theorem dL_areStates_45 : decode cL_areStates 45 = .ok (.iload 5, 2) := by decide +kernel
theorem dL_areStates_47 : decode cL_areStates 47 = .ok (.invokestatic 104, 3) := by decide +kernel
theorem dL_areStates_50 : decode cL_areStates 50 = .ok (.ifCond .eq 6, 3) := by decide +kernel
theorem dL_areStates_53 : decode cL_areStates 53 = .ok (.goto 106, 3) := by decide +kernel
theorem dL_areStates_56 : decode cL_areStates 56 = .ok (.iload_n 3, 1) := by decide +kernel
theorem dL_areStates_57 : decode cL_areStates 57 = .ok (.ifCond .ge 19, 3) := by decide +kernel
theorem dL_areStates_60 : decode cL_areStates 60 = .ok (.aload_n 1, 1) := by decide +kernel
theorem dL_areStates_61 : decode cL_areStates 61 = .ok (.getfield 91, 3) := by decide +kernel
theorem dL_areStates_64 : decode cL_areStates 64 = .ok (.iconst 2, 1) := by decide +kernel
theorem dL_areStates_65 : decode cL_areStates 65 = .ok (.iload 4, 2) := by decide +kernel
theorem dL_areStates_67 : decode cL_areStates 67 = .ok (.imul, 1) := by decide +kernel
theorem dL_areStates_68 : decode cL_areStates 68 = .ok (.iload 5, 2) := by decide +kernel
theorem dL_areStates_70 : decode cL_areStates 70 = .ok (.iadd, 1) := by decide +kernel
theorem dL_areStates_71 : decode cL_areStates 71 = .ok (.iaload, 1) := by decide +kernel
theorem dL_areStates_72 : decode cL_areStates 72 = .ok (.i2l, 1) := by decide +kernel
theorem dL_areStates_73 : decode cL_areStates 73 = .ok (.goto 4, 3) := by decide +kernel
theorem dL_areStates_76 : decode cL_areStates 76 = .ok (.lconst 0, 1) := by decide +kernel
theorem dL_areStates_77 : decode cL_areStates 77 = .ok (.invokestatic 100, 3) := by decide +kernel
theorem dL_areStates_80 : decode cL_areStates 80 = .ok (.astore 6, 2) := by decide +kernel
theorem dL_areStates_82 : decode cL_areStates 82 = .ok (.iconst 0, 1) := by decide +kernel
theorem dL_areStates_83 : decode cL_areStates 83 = .ok (.istore 7, 2) := by decide +kernel
theorem dL_areStates_85 : decode cL_areStates 85 = .ok (.iload 7, 2) := by decide +kernel
theorem dL_areStates_87 : decode cL_areStates 87 = .ok (.aload_n 1, 1) := by decide +kernel
theorem dL_areStates_88 : decode cL_areStates 88 = .ok (.getfield 72, 3) := by decide +kernel
theorem dL_areStates_91 : decode cL_areStates 91 = .ok (.if_icmp .ge 57, 3) := by decide +kernel
theorem dL_areStates_94 : decode cL_areStates 94 = .ok (.aload_n 1, 1) := by decide +kernel
theorem dL_areStates_95 : decode cL_areStates 95 = .ok (.getfield 88, 3) := by decide +kernel
theorem dL_areStates_98 : decode cL_areStates 98 = .ok (.iload 7, 2) := by decide +kernel
theorem dL_areStates_100 : decode cL_areStates 100 = .ok (.invokestatic 104, 3) := by decide +kernel
theorem dL_areStates_103 : decode cL_areStates 103 = .ok (.ifCond .eq 35, 3) := by decide +kernel
theorem dL_areStates_106 : decode cL_areStates 106 = .ok (.aload 6, 2) := by decide +kernel
theorem dL_areStates_108 : decode cL_areStates 108 = .ok (.aload_n 0, 1) := by decide +kernel
theorem dL_areStates_109 : decode cL_areStates 109 = .ok (.iload_n 3, 1) := by decide +kernel
theorem dL_areStates_110 : decode cL_areStates 110 = .ok (.iload 7, 2) := by decide +kernel
theorem dL_areStates_112 : decode cL_areStates 112 = .ok (.invokestatic 134, 3) := by decide +kernel
theorem dL_areStates_115 : decode cL_areStates 115 = .ok (.aload_n 1, 1) := by decide +kernel
theorem dL_areStates_116 : decode cL_areStates 116 = .ok (.iload 7, 2) := by decide +kernel
theorem dL_areStates_118 : decode cL_areStates 118 = .ok (.iload 4, 2) := by decide +kernel
theorem dL_areStates_120 : decode cL_areStates 120 = .ok (.iload 5, 2) := by decide +kernel
theorem dL_areStates_122 : decode cL_areStates 122 = .ok (.invokestatic 111, 3) := by decide +kernel
theorem dL_areStates_125 : decode cL_areStates 125 = .ok (.i2l, 1) := by decide +kernel
theorem dL_areStates_126 : decode cL_areStates 126 = .ok (.invokestatic 100, 3) := by decide +kernel
theorem dL_areStates_129 : decode cL_areStates 129 = .ok (.invokestatic 115, 3) := by decide +kernel
theorem dL_areStates_132 : decode cL_areStates 132 = .ok (.invokestatic 119, 3) := by decide +kernel
theorem dL_areStates_135 : decode cL_areStates 135 = .ok (.goto 5, 3) := by decide +kernel
theorem dL_areStates_138 : decode cL_areStates 138 = .ok (.aload 6, 2) := by decide +kernel
theorem dL_areStates_140 : decode cL_areStates 140 = .ok (.astore 6, 2) := by decide +kernel
theorem dL_areStates_142 : decode cL_areStates 142 = .ok (.iinc 7 1, 3) := by decide +kernel
theorem dL_areStates_145 : decode cL_areStates 145 = .ok (.goto (-60), 3) := by decide +kernel
theorem dL_areStates_148 : decode cL_areStates 148 = .ok (.aload 6, 2) := by decide +kernel
theorem dL_areStates_150 : decode cL_areStates 150 = .ok (.iconst 0, 1) := by decide +kernel
theorem dL_areStates_151 : decode cL_areStates 151 = .ok (.laload, 1) := by decide +kernel
theorem dL_areStates_152 : decode cL_areStates 152 = .ok (.lconst 0, 1) := by decide +kernel
theorem dL_areStates_153 : decode cL_areStates 153 = .ok (.lcmp, 1) := by decide +kernel
theorem dL_areStates_154 : decode cL_areStates 154 = .ok (.ifCond .eq 5, 3) := by decide +kernel
theorem dL_areStates_157 : decode cL_areStates 157 = .ok (.iconst 0, 1) := by decide +kernel
theorem dL_areStates_158 : decode cL_areStates 158 = .ok (.ireturn, 1) := by decide +kernel
theorem dL_areStates_159 : decode cL_areStates 159 = .ok (.iinc 5 1, 3) := by decide +kernel
theorem dL_areStates_162 : decode cL_areStates 162 = .ok (.goto (-130), 3) := by decide +kernel
theorem dL_areStates_165 : decode cL_areStates 165 = .ok (.iinc 4 1, 3) := by decide +kernel
theorem dL_areStates_168 : decode cL_areStates 168 = .ok (.goto (-148), 3) := by decide +kernel
theorem dL_areStates_171 : decode cL_areStates 171 = .ok (.iinc 3 1, 3) := by decide +kernel
theorem dL_areStates_174 : decode cL_areStates 174 = .ok (.goto (-162), 3) := by decide +kernel
theorem dL_areStates_177 : decode cL_areStates 177 = .ok (.iconst 0, 1) := by decide +kernel
theorem dL_areStates_178 : decode cL_areStates 178 = .ok (.istore_n 3, 1) := by decide +kernel
theorem dL_areStates_179 : decode cL_areStates 179 = .ok (.iload_n 3, 1) := by decide +kernel
theorem dL_areStates_180 : decode cL_areStates 180 = .ok (.aload_n 1, 1) := by decide +kernel
theorem dL_areStates_181 : decode cL_areStates 181 = .ok (.getfield 72, 3) := by decide +kernel
theorem dL_areStates_184 : decode cL_areStates 184 = .ok (.if_icmp .ge 173, 3) := by decide +kernel
theorem dL_areStates_187 : decode cL_areStates 187 = .ok (.aload_n 1, 1) := by decide +kernel
theorem dL_areStates_188 : decode cL_areStates 188 = .ok (.getfield 88, 3) := by decide +kernel
theorem dL_areStates_191 : decode cL_areStates 191 = .ok (.iload_n 3, 1) := by decide +kernel
theorem dL_areStates_192 : decode cL_areStates 192 = .ok (.invokestatic 104, 3) := by decide +kernel
theorem dL_areStates_195 : decode cL_areStates 195 = .ok (.ifCond .ne 22, 3) := by decide +kernel
theorem dL_areStates_198 : decode cL_areStates 198 = .ok (.aload_n 0, 1) := by decide +kernel
theorem dL_areStates_199 : decode cL_areStates 199 = .ok (.iload_n 3, 1) := by decide +kernel
theorem dL_areStates_200 : decode cL_areStates 200 = .ok (.invokestatic 108, 3) := by decide +kernel
theorem dL_areStates_203 : decode cL_areStates 203 = .ok (.ifnonnull 12, 3) := by decide +kernel
theorem dL_areStates_206 : decode cL_areStates 206 = .ok (.aload_n 0, 1) := by decide +kernel
theorem dL_areStates_207 : decode cL_areStates 207 = .ok (.iconst (-1), 1) := by decide +kernel
theorem dL_areStates_208 : decode cL_areStates 208 = .ok (.iload_n 3, 1) := by decide +kernel
theorem dL_areStates_209 : decode cL_areStates 209 = .ok (.invokestatic 134, 3) := by decide +kernel
theorem dL_areStates_212 : decode cL_areStates 212 = .ok (.ifnull 139, 3) := by decide +kernel
theorem dL_areStates_215 : decode cL_areStates 215 = .ok (.iconst 0, 1) := by decide +kernel
theorem dL_areStates_216 : decode cL_areStates 216 = .ok (.ireturn, 1) := by decide +kernel
theorem dL_areStates_217 : decode cL_areStates 217 = .ok (.aload_n 0, 1) := by decide +kernel
theorem dL_areStates_218 : decode cL_areStates 218 = .ok (.iconst (-1), 1) := by decide +kernel
theorem dL_areStates_219 : decode cL_areStates 219 = .ok (.iload_n 3, 1) := by decide +kernel
theorem dL_areStates_220 : decode cL_areStates 220 = .ok (.invokestatic 134, 3) := by decide +kernel
theorem dL_areStates_223 : decode cL_areStates 223 = .ok (.astore 4, 2) := by decide +kernel
theorem dL_areStates_225 : decode cL_areStates 225 = .ok (.iconst 0, 1) := by decide +kernel
theorem dL_areStates_226 : decode cL_areStates 226 = .ok (.istore 5, 2) := by decide +kernel
theorem dL_areStates_228 : decode cL_areStates 228 = .ok (.iload 5, 2) := by decide +kernel
theorem dL_areStates_230 : decode cL_areStates 230 = .ok (.iload_n 2, 1) := by decide +kernel
theorem dL_areStates_231 : decode cL_areStates 231 = .ok (.if_icmp .ge 79, 3) := by decide +kernel
theorem dL_areStates_234 : decode cL_areStates 234 = .ok (.aload 4, 2) := by decide +kernel
theorem dL_areStates_236 : decode cL_areStates 236 = .ok (.aload_n 0, 1) := by decide +kernel
theorem dL_areStates_237 : decode cL_areStates 237 = .ok (.iload 5, 2) := by decide +kernel
theorem dL_areStates_239 : decode cL_areStates 239 = .ok (.iload_n 3, 1) := by decide +kernel
theorem dL_areStates_240 : decode cL_areStates 240 = .ok (.invokestatic 134, 3) := by decide +kernel
theorem dL_areStates_243 : decode cL_areStates 243 = .ok (.aload_n 0, 1) := by decide +kernel
theorem dL_areStates_244 : decode cL_areStates 244 = .ok (.aload_n 0, 1) := by decide +kernel
theorem dL_areStates_245 : decode cL_areStates 245 = .ok (.iload 5, 2) := by decide +kernel
theorem dL_areStates_247 : decode cL_areStates 247 = .ok (.invokestatic 136, 3) := by decide +kernel
theorem dL_areStates_250 : decode cL_areStates 250 = .ok (.invokestatic 108, 3) := by decide +kernel
theorem dL_areStates_253 : decode cL_areStates 253 = .ok (.invokestatic 115, 3) := by decide +kernel
theorem dL_areStates_256 : decode cL_areStates 256 = .ok (.invokestatic 119, 3) := by decide +kernel
theorem dL_areStates_259 : decode cL_areStates 259 = .ok (.astore 4, 2) := by decide +kernel
theorem dL_areStates_261 : decode cL_areStates 261 = .ok (.aload_n 0, 1) := by decide +kernel
theorem dL_areStates_262 : decode cL_areStates 262 = .ok (.bipush 6, 2) := by decide +kernel
theorem dL_areStates_264 : decode cL_areStates 264 = .ok (.invokevirtual 97, 3) := by decide +kernel
theorem dL_areStates_267 : decode cL_areStates 267 = .ok (.iload_n 3, 1) := by decide +kernel
theorem dL_areStates_268 : decode cL_areStates 268 = .ok (.invokestatic 104, 3) := by decide +kernel
theorem dL_areStates_271 : decode cL_areStates 271 = .ok (.ifCond .eq 33, 3) := by decide +kernel
theorem dL_areStates_274 : decode cL_areStates 274 = .ok (.aload_n 0, 1) := by decide +kernel
theorem dL_areStates_275 : decode cL_areStates 275 = .ok (.iload 5, 2) := by decide +kernel
theorem dL_areStates_277 : decode cL_areStates 277 = .ok (.iload_n 3, 1) := by decide +kernel
theorem dL_areStates_278 : decode cL_areStates 278 = .ok (.invokestatic 134, 3) := by decide +kernel
theorem dL_areStates_281 : decode cL_areStates 281 = .ok (.iconst 0, 1) := by decide +kernel
theorem dL_areStates_282 : decode cL_areStates 282 = .ok (.laload, 1) := by decide +kernel
theorem dL_areStates_283 : decode cL_areStates 283 = .ok (.aload_n 0, 1) := by decide +kernel
theorem dL_areStates_284 : decode cL_areStates 284 = .ok (.iload 5, 2) := by decide +kernel
theorem dL_areStates_286 : decode cL_areStates 286 = .ok (.invokestatic 136, 3) := by decide +kernel
theorem dL_areStates_289 : decode cL_areStates 289 = .ok (.iload_n 3, 1) := by decide +kernel
theorem dL_areStates_290 : decode cL_areStates 290 = .ok (.if_icmp .ne 7, 3) := by decide +kernel
theorem dL_areStates_293 : decode cL_areStates 293 = .ok (.lconst 1, 1) := by decide +kernel
theorem dL_areStates_294 : decode cL_areStates 294 = .ok (.goto 4, 3) := by decide +kernel
theorem dL_areStates_297 : decode cL_areStates 297 = .ok (.lconst 0, 1) := by decide +kernel
theorem dL_areStates_298 : decode cL_areStates 298 = .ok (.lcmp, 1) := by decide +kernel
theorem dL_areStates_299 : decode cL_areStates 299 = .ok (.ifCond .eq 5, 3) := by decide +kernel
theorem dL_areStates_302 : decode cL_areStates 302 = .ok (.iconst 0, 1) := by decide +kernel
theorem dL_areStates_303 : decode cL_areStates 303 = .ok (.ireturn, 1) := by decide +kernel
theorem dL_areStates_304 : decode cL_areStates 304 = .ok (.iinc 5 1, 3) := by decide +kernel
theorem dL_areStates_307 : decode cL_areStates 307 = .ok (.goto (-79), 3) := by decide +kernel
theorem dL_areStates_310 : decode cL_areStates 310 = .ok (.aload_n 0, 1) := by decide +kernel
theorem dL_areStates_311 : decode cL_areStates 311 = .ok (.iload_n 3, 1) := by decide +kernel
theorem dL_areStates_312 : decode cL_areStates 312 = .ok (.invokestatic 108, 3) := by decide +kernel
theorem dL_areStates_315 : decode cL_areStates 315 = .ok (.astore 5, 2) := by decide +kernel
theorem dL_areStates_317 : decode cL_areStates 317 = .ok (.aload 5, 2) := by decide +kernel
theorem dL_areStates_319 : decode cL_areStates 319 = .ok (.invokestatic 125, 3) := by decide +kernel
theorem dL_areStates_322 : decode cL_areStates 322 = .ok (.ifCond .eq 27, 3) := by decide +kernel
theorem dL_areStates_325 : decode cL_areStates 325 = .ok (.aload 4, 2) := by decide +kernel
theorem dL_areStates_327 : decode cL_areStates 327 = .ok (.iconst 0, 1) := by decide +kernel
theorem dL_areStates_328 : decode cL_areStates 328 = .ok (.laload, 1) := by decide +kernel
theorem dL_areStates_329 : decode cL_areStates 329 = .ok (.aload 5, 2) := by decide +kernel
theorem dL_areStates_331 : decode cL_areStates 331 = .ok (.iconst 0, 1) := by decide +kernel
theorem dL_areStates_332 : decode cL_areStates 332 = .ok (.laload, 1) := by decide +kernel
theorem dL_areStates_333 : decode cL_areStates 333 = .ok (.lcmp, 1) := by decide +kernel
theorem dL_areStates_334 : decode cL_areStates 334 = .ok (.ifCond .ne 15, 3) := by decide +kernel
theorem dL_areStates_337 : decode cL_areStates 337 = .ok (.aload 4, 2) := by decide +kernel
theorem dL_areStates_339 : decode cL_areStates 339 = .ok (.iconst 1, 1) := by decide +kernel
theorem dL_areStates_340 : decode cL_areStates 340 = .ok (.laload, 1) := by decide +kernel
theorem dL_areStates_341 : decode cL_areStates 341 = .ok (.aload 5, 2) := by decide +kernel
theorem dL_areStates_343 : decode cL_areStates 343 = .ok (.iconst 1, 1) := by decide +kernel
theorem dL_areStates_344 : decode cL_areStates 344 = .ok (.laload, 1) := by decide +kernel
theorem dL_areStates_345 : decode cL_areStates 345 = .ok (.lcmp, 1) := by decide +kernel
theorem dL_areStates_346 : decode cL_areStates 346 = .ok (.ifCond .eq 5, 3) := by decide +kernel
theorem dL_areStates_349 : decode cL_areStates 349 = .ok (.iconst 0, 1) := by decide +kernel
theorem dL_areStates_350 : decode cL_areStates 350 = .ok (.ireturn, 1) := by decide +kernel
theorem dL_areStates_351 : decode cL_areStates 351 = .ok (.iinc 3 1, 3) := by decide +kernel
theorem dL_areStates_354 : decode cL_areStates 354 = .ok (.goto (-175), 3) := by decide +kernel
theorem dL_areStates_357 : decode cL_areStates 357 = .ok (.iconst 0, 1) := by decide +kernel
theorem dL_areStates_358 : decode cL_areStates 358 = .ok (.istore_n 3, 1) := by decide +kernel
theorem dL_areStates_359 : decode cL_areStates 359 = .ok (.iload_n 3, 1) := by decide +kernel
theorem dL_areStates_360 : decode cL_areStates 360 = .ok (.iload_n 2, 1) := by decide +kernel
theorem dL_areStates_361 : decode cL_areStates 361 = .ok (.if_icmp .ge 98, 3) := by decide +kernel
theorem dL_areStates_364 : decode cL_areStates 364 = .ok (.lconst 0, 1) := by decide +kernel
theorem dL_areStates_365 : decode cL_areStates 365 = .ok (.invokestatic 100, 3) := by decide +kernel
theorem dL_areStates_368 : decode cL_areStates 368 = .ok (.astore 4, 2) := by decide +kernel
theorem dL_areStates_370 : decode cL_areStates 370 = .ok (.iconst 0, 1) := by decide +kernel
theorem dL_areStates_371 : decode cL_areStates 371 = .ok (.istore 5, 2) := by decide +kernel
theorem dL_areStates_373 : decode cL_areStates 373 = .ok (.iload 5, 2) := by decide +kernel
theorem dL_areStates_375 : decode cL_areStates 375 = .ok (.aload_n 1, 1) := by decide +kernel
theorem dL_areStates_376 : decode cL_areStates 376 = .ok (.getfield 72, 3) := by decide +kernel
theorem dL_areStates_379 : decode cL_areStates 379 = .ok (.if_icmp .ge 63, 3) := by decide +kernel
theorem dL_areStates_382 : decode cL_areStates 382 = .ok (.aload_n 1, 1) := by decide +kernel
theorem dL_areStates_383 : decode cL_areStates 383 = .ok (.getfield 88, 3) := by decide +kernel
theorem dL_areStates_386 : decode cL_areStates 386 = .ok (.iload 5, 2) := by decide +kernel
theorem dL_areStates_388 : decode cL_areStates 388 = .ok (.invokestatic 104, 3) := by decide +kernel
theorem dL_areStates_391 : decode cL_areStates 391 = .ok (.ifCond .eq 41, 3) := by decide +kernel
theorem dL_areStates_394 : decode cL_areStates 394 = .ok (.aload 4, 2) := by decide +kernel
theorem dL_areStates_396 : decode cL_areStates 396 = .ok (.aload_n 1, 1) := by decide +kernel
theorem dL_areStates_397 : decode cL_areStates 397 = .ok (.getfield 85, 3) := by decide +kernel
theorem dL_areStates_400 : decode cL_areStates 400 = .ok (.iload 5, 2) := by decide +kernel
theorem dL_areStates_402 : decode cL_areStates 402 = .ok (.iaload, 1) := by decide +kernel
theorem dL_areStates_403 : decode cL_areStates 403 = .ok (.i2l, 1) := by decide +kernel
theorem dL_areStates_404 : decode cL_areStates 404 = .ok (.invokestatic 100, 3) := by decide +kernel
theorem dL_areStates_407 : decode cL_areStates 407 = .ok (.aload_n 0, 1) := by decide +kernel
theorem dL_areStates_408 : decode cL_areStates 408 = .ok (.iload 5, 2) := by decide +kernel
theorem dL_areStates_410 : decode cL_areStates 410 = .ok (.invokestatic 108, 3) := by decide +kernel
theorem dL_areStates_413 : decode cL_areStates 413 = .ok (.invokestatic 115, 3) := by decide +kernel
theorem dL_areStates_416 : decode cL_areStates 416 = .ok (.aload_n 0, 1) := by decide +kernel
theorem dL_areStates_417 : decode cL_areStates 417 = .ok (.iload_n 3, 1) := by decide +kernel
theorem dL_areStates_418 : decode cL_areStates 418 = .ok (.iload 5, 2) := by decide +kernel
theorem dL_areStates_420 : decode cL_areStates 420 = .ok (.invokestatic 134, 3) := by decide +kernel
theorem dL_areStates_423 : decode cL_areStates 423 = .ok (.invokestatic 115, 3) := by decide +kernel
theorem dL_areStates_426 : decode cL_areStates 426 = .ok (.invokestatic 119, 3) := by decide +kernel
theorem dL_areStates_429 : decode cL_areStates 429 = .ok (.goto 5, 3) := by decide +kernel
theorem dL_areStates_432 : decode cL_areStates 432 = .ok (.aload 4, 2) := by decide +kernel
theorem dL_areStates_434 : decode cL_areStates 434 = .ok (.astore 4, 2) := by decide +kernel
theorem dL_areStates_436 : decode cL_areStates 436 = .ok (.iinc 5 1, 3) := by decide +kernel
theorem dL_areStates_439 : decode cL_areStates 439 = .ok (.goto (-66), 3) := by decide +kernel
theorem dL_areStates_442 : decode cL_areStates 442 = .ok (.aload 4, 2) := by decide +kernel
theorem dL_areStates_444 : decode cL_areStates 444 = .ok (.iconst 0, 1) := by decide +kernel
theorem dL_areStates_445 : decode cL_areStates 445 = .ok (.laload, 1) := by decide +kernel
theorem dL_areStates_446 : decode cL_areStates 446 = .ok (.lconst 0, 1) := by decide +kernel
theorem dL_areStates_447 : decode cL_areStates 447 = .ok (.lcmp, 1) := by decide +kernel
theorem dL_areStates_448 : decode cL_areStates 448 = .ok (.ifCond .eq 5, 3) := by decide +kernel
theorem dL_areStates_451 : decode cL_areStates 451 = .ok (.iconst 0, 1) := by decide +kernel
theorem dL_areStates_452 : decode cL_areStates 452 = .ok (.ireturn, 1) := by decide +kernel
theorem dL_areStates_453 : decode cL_areStates 453 = .ok (.iinc 3 1, 3) := by decide +kernel
theorem dL_areStates_456 : decode cL_areStates 456 = .ok (.goto (-97), 3) := by decide +kernel
theorem dL_areStates_459 : decode cL_areStates 459 = .ok (.aload_n 0, 1) := by decide +kernel
theorem dL_areStates_460 : decode cL_areStates 460 = .ok (.iload_n 2, 1) := by decide +kernel
theorem dL_areStates_461 : decode cL_areStates 461 = .ok (.iconst 0, 1) := by decide +kernel
theorem dL_areStates_462 : decode cL_areStates 462 = .ok (.invokestatic 134, 3) := by decide +kernel
theorem dL_areStates_465 : decode cL_areStates 465 = .ok (.ifnonnull 17, 3) := by decide +kernel
theorem dL_areStates_468 : decode cL_areStates 468 = .ok (.aload_n 0, 1) := by decide +kernel
theorem dL_areStates_469 : decode cL_areStates 469 = .ok (.bipush (-2), 2) := by decide +kernel
theorem dL_areStates_471 : decode cL_areStates 471 = .ok (.iconst 0, 1) := by decide +kernel
theorem dL_areStates_472 : decode cL_areStates 472 = .ok (.invokestatic 134, 3) := by decide +kernel
theorem dL_areStates_475 : decode cL_areStates 475 = .ok (.ifnonnull 7, 3) := by decide +kernel
theorem dL_areStates_478 : decode cL_areStates 478 = .ok (.iconst 1, 1) := by decide +kernel
theorem dL_areStates_479 : decode cL_areStates 479 = .ok (.goto 4, 3) := by decide +kernel
theorem dL_areStates_482 : decode cL_areStates 482 = .ok (.iconst 0, 1) := by decide +kernel
theorem dL_areStates_483 : decode cL_areStates 483 = .ok (.ireturn, 1) := by decide +kernel
set_option maxRecDepth 20000 in
theorem ggL_isKind_X7_count : GoodIn wsL_isKind wsX7_count := goodIn_r _ [5, 6, 7, 8, 9, 10, 11, 12, 13, 14, 15, 16, 17, 18, 19, 20, 21, 22, 23, 24, 25, 26, 27, 28, 29, 30, 31, 32, 33, 34, 35, 36, 37, 38, 4, 39, 40, 41, 42, 43, 44, 45, 46, 47, 48, 49, 50, 51, 52, 53, 54, 55, 56, 57, 58, 59, 60, 61, 62, 63, 64, 65, 66, 67, 68, 69, 70, 71, 72, 73, 74, 75, 76, 77, 78, 79, 80, 81, 82, 83, 84, 85, 86, 87, 88, 89, 90, 91, 92, 93, 94, 95, 96, 97, 98, 99, 100, 101, 102, 103, 104, 105, 106, 107, 108, 109, 110, 111, 112, 113, 114, 115, 116, 117, 118, 119, 120, 121, 122, 123, 124, 125, 126, 127, 276, 277, 278, 279, 280, 281, 282, 283, 284, 285, 286, 287, 288, 289, 290, 291, 292, 293, 294, 295, 296, 297, 298, 299, 300, 301, 302, 303, 304, 305, 306, 307, 308, 309, 310] (by decide +kernel) (by decide +kernel)
set_option maxRecDepth 20000 in
theorem gL_isKind_X7_count : GoodIn wsL_isKind (wsV RL 97 RX7 yX7_count wsX7_count) := goodIn_app (goodIn_of _ (by decide +kernel)) ggL_isKind_X7_count
set_option maxRecDepth 20000 in
theorem ggL_isKind_J6_bitCount_0f7a4 : GoodIn wsL_isKind wsJ6_bitCount_0f7a4 := goodIn_r _ [48, 49, 50, 51] (by decide +kernel) (by decide +kernel)
set_option maxRecDepth 20000 in
theorem gL_isKind_J6_bitCount_0f7a4 : GoodIn wsL_isKind (va_wsS RL 129 yJ6_bitCount_0f7a4 wsJ6_bitCount_0f7a4) := goodIn_app (goodIn_of _ (by decide +kernel)) ggL_isKind_J6_bitCount_0f7a4
set_option maxRecDepth 20000 in
theorem ggL_isKind_L_isFirm : GoodIn wsL_isKind wsL_isFirm := goodIn_r _ [132] (by decide +kernel) (by decide +kernel)
set_option maxRecDepth 20000 in
theorem gL_isKind_L_isFirm : GoodIn wsL_isKind (va_wsS RL 143 yL_isFirm wsL_isFirm) := goodIn_app (goodIn_of _ (by decide +kernel)) ggL_isKind_L_isFirm
set_option maxRecDepth 20000 in
theorem ggL_isKind_L_pull : GoodIn wsL_isKind wsL_pull := goodIn_ca (goodIn_r _ [135, 136, 137, 138, 139, 140, 4, 141, 6, 9, 142, 143, 144, 145, 32, 146, 35, 147, 148, 149, 150, 34, 38, 39, 151, 152, 153, 154, 70, 155, 75, 76, 77, 78, 79, 80, 81, 82, 83, 84, 85, 86, 87, 88, 89, 90, 91, 92, 93, 94, 95, 96, 97, 98, 99, 58, 59, 60, 61, 37, 36, 100, 101, 102, 103, 104, 105, 106, 107, 108, 109, 110, 111, 112, 113, 114, 115, 116, 117, 118, 119, 120, 121, 122, 123, 124, 125, 126, 127, 46, 47, 48, 49, 50, 51, 156, 157, 158, 159, 160, 161, 162, 163, 164, 165, 166, 167, 168, 169, 170, 171, 172, 173, 174, 175, 176, 177, 178, 179, 180, 181, 182, 183, 184, 185, 186, 187, 188, 189, 190, 191, 192, 193, 194, 195, 196, 197, 198, 199, 200, 201, 202, 203, 204, 205, 206, 207, 208, 209, 210, 211, 212, 213, 214, 215, 216, 217, 218, 219, 220, 221, 222, 223, 224, 225, 226, 227, 228, 229, 230, 231, 232, 233, 234, 235, 236, 237, 238, 239, 240, 241, 242, 276, 277, 278, 279, 280, 281, 282, 283, 284, 285, 286, 287, 288, 289, 290, 291, 292, 302, 303, 304, 305, 306, 307, 308, 309, 310, 311, 312, 313, 314, 315, 316, 317, 318, 319] (by decide +kernel) (by decide +kernel)) (goodIn_sub (fun _ h => List.mem_cons_of_mem _ (List.mem_append_right _ h)) (by decide +kernel))
set_option maxRecDepth 20000 in
theorem gL_isKind_L_pull : GoodIn wsL_isKind (va_wsS RL 108 yL_pull wsL_pull) := goodIn_app (goodIn_of _ (by decide +kernel)) ggL_isKind_L_pull
set_option maxRecDepth 20000 in
theorem ggL_isKind_X7_painted : GoodIn wsL_isKind wsX7_painted := goodIn_r _ [246, 6, 9, 142, 8, 151, 152, 153, 4, 154, 70, 155, 75, 76, 77, 78, 79, 80, 81, 82, 83, 84, 85, 86, 87, 88, 89, 90, 91, 92, 93, 94, 95, 96, 97, 98, 99, 58, 59, 32, 60, 61, 37, 36, 100, 101, 102, 103, 38, 39, 104, 105, 106, 107, 108, 109, 110, 111, 112, 113, 114, 115, 116, 117, 118, 119, 120, 121, 122, 123, 124, 125, 126, 127, 46, 47, 48, 49, 50, 51, 156, 157, 158, 159, 160, 161, 162, 163, 164, 165, 166, 167, 168, 169, 170, 171, 172, 173, 174, 175, 176, 177, 178, 179, 180, 181, 182, 183, 184, 185, 186, 187, 188, 189, 190, 191, 192, 193, 194, 195, 196, 197, 198, 199, 200, 143, 144, 145, 146, 35, 147, 148, 149, 150, 34, 247, 248, 249, 250, 227, 210, 229, 251, 236, 237, 252, 228, 211, 212, 213, 214, 215, 216, 217, 218, 219, 220, 221, 222, 230, 231, 232, 233, 234, 235, 238, 239, 240, 241, 242, 276, 277, 278, 279, 280, 281, 282, 283, 284, 285, 286, 287, 288, 289, 290, 291, 292, 302, 303, 304, 305, 306, 307, 308, 309, 310, 311, 312, 313, 314, 315, 316, 317, 318, 319] (by decide +kernel) (by decide +kernel)
set_option maxRecDepth 20000 in
theorem gL_isKind_X7_painted : GoodIn wsL_isKind (wsV RL 147 RX7 yX7_painted wsX7_painted) := goodIn_app (goodIn_of _ (by decide +kernel)) ggL_isKind_X7_painted
set_option maxRecDepth 20000 in
theorem ggL_isKind_X7_times : GoodIn wsL_isKind wsX7_times := goodIn_r _ [256, 6, 9, 142, 257, 8, 258, 259, 125, 260, 151, 152, 153, 4, 154, 70, 155, 75, 76, 77, 78, 79, 80, 81, 82, 83, 84, 85, 86, 87, 88, 89, 90, 91, 92, 93, 94, 95, 96, 97, 98, 99, 58, 59, 32, 60, 61, 37, 36, 100, 101, 102, 103, 38, 39, 104, 105, 106, 107, 108, 109, 110, 111, 112, 113, 114, 115, 116, 117, 118, 119, 120, 121, 122, 123, 124, 126, 127, 46, 47, 48, 49, 50, 51, 156, 157, 158, 159, 160, 161, 162, 163, 164, 165, 166, 167, 168, 169, 170, 171, 172, 173, 174, 175, 176, 177, 178, 179, 180, 181, 182, 183, 184, 185, 186, 187, 188, 189, 190, 191, 192, 193, 194, 195, 196, 197, 198, 199, 200, 143, 144, 145, 146, 35, 147, 148, 149, 150, 34, 261, 262, 263, 264, 227, 210, 229, 251, 236, 237, 228, 252, 211, 212, 213, 214, 215, 216, 217, 218, 219, 220, 221, 222, 230, 231, 232, 233, 234, 235, 238, 239, 240, 241, 242, 265, 276, 277, 278, 279, 280, 281, 282, 283, 284, 285, 286, 287, 288, 289, 290, 291, 292, 302, 303, 304, 305, 306, 307, 308, 309, 310, 311, 312, 313, 314, 315, 316, 317, 318, 319] (by decide +kernel) (by decide +kernel)
set_option maxRecDepth 20000 in
theorem gL_isKind_X7_times : GoodIn wsL_isKind (wsV RL 150 RX7 yX7_times wsX7_times) := goodIn_app (goodIn_of _ (by decide +kernel)) ggL_isKind_X7_times
theorem dL_isKind_0 : decode cL_isKind 0 = .ok (.aload_n 0, 1) := by decide +kernel
theorem dL_isKind_1 : decode cL_isKind 1 = .ok (.iconst 5, 1) := by decide +kernel
theorem dL_isKind_2 : decode cL_isKind 2 = .ok (.invokevirtual 97, 3) := by decide +kernel
theorem dL_isKind_5 : decode cL_isKind 5 = .ok (.istore_n 2, 1) := by decide +kernel
theorem dL_isKind_6 : decode cL_isKind 6 = .ok (.aload_n 0, 1) := by decide +kernel
theorem dL_isKind_7 : decode cL_isKind 7 = .ok (.bipush 6, 2) := by decide +kernel
theorem dL_isKind_9 : decode cL_isKind 9 = .ok (.invokevirtual 97, 3) := by decide +kernel
theorem dL_isKind_12 : decode cL_isKind 12 = .ok (.istore_n 3, 1) := by decide +kernel
theorem dL_isKind_13 : decode cL_isKind 13 = .ok (.aload_n 0, 1) := by decide +kernel
theorem dL_isKind_14 : decode cL_isKind 14 = .ok (.iconst 3, 1) := by decide +kernel
theorem dL_isKind_15 : decode cL_isKind 15 = .ok (.invokevirtual 97, 3) := by decide +kernel
theorem dL_isKind_18 : decode cL_isKind 18 = .ok (.istore 4, 2) := by decide +kernel
theorem dL_isKind_20 : decode cL_isKind 20 = .ok (.aload_n 0, 1) := by decide +kernel
theorem dL_isKind_21 : decode cL_isKind 21 = .ok (.iconst 4, 1) := by decide +kernel
theorem dL_isKind_22 : decode cL_isKind 22 = .ok (.invokevirtual 97, 3) := by decide +kernel
theorem dL_isKind_25 : decode cL_isKind 25 = .ok (.istore 5, 2) := by decide +kernel
theorem dL_isKind_27 : decode cL_isKind 27 = .ok (.iload_n 2, 1) := by decide +kernel
theorem dL_isKind_28 : decode cL_isKind 28 = .ok (.invokestatic 129, 3) := by decide +kernel
theorem dL_isKind_31 : decode cL_isKind 31 = .ok (.iload 4, 2) := by decide +kernel
theorem dL_isKind_33 : decode cL_isKind 33 = .ok (.if_icmp .ge 7, 3) := by decide +kernel
theorem dL_isKind_36 : decode cL_isKind 36 = .ok (.iconst 0, 1) := by decide +kernel
theorem dL_isKind_37 : decode cL_isKind 37 = .ok (.goto 21, 3) := by decide +kernel
theorem dL_isKind_40 : decode cL_isKind 40 = .ok (.iload_n 3, 1) := by decide +kernel
theorem dL_isKind_41 : decode cL_isKind 41 = .ok (.invokestatic 129, 3) := by decide +kernel
theorem dL_isKind_44 : decode cL_isKind 44 = .ok (.iconst 2, 1) := by decide +kernel
theorem dL_isKind_45 : decode cL_isKind 45 = .ok (.if_icmp .le 7, 3) := by decide +kernel
theorem dL_isKind_48 : decode cL_isKind 48 = .ok (.iconst 4, 1) := by decide +kernel
theorem dL_isKind_49 : decode cL_isKind 49 = .ok (.goto 9, 3) := by decide +kernel
theorem dL_isKind_52 : decode cL_isKind 52 = .ok (.iconst 1, 1) := by decide +kernel
theorem dL_isKind_53 : decode cL_isKind 53 = .ok (.iload_n 3, 1) := by decide +kernel
theorem dL_isKind_54 : decode cL_isKind 54 = .ok (.invokestatic 129, 3) := by decide +kernel
theorem dL_isKind_57 : decode cL_isKind 57 = .ok (.iadd, 1) := by decide +kernel
theorem dL_isKind_58 : decode cL_isKind 58 = .ok (.istore 6, 2) := by decide +kernel
theorem dL_isKind_60 : decode cL_isKind 60 = .ok (.iload_n 2, 1) := by decide +kernel
theorem dL_isKind_61 : decode cL_isKind 61 = .ok (.iload_n 3, 1) := by decide +kernel
theorem dL_isKind_62 : decode cL_isKind 62 = .ok (.iand, 1) := by decide +kernel
theorem dL_isKind_63 : decode cL_isKind 63 = .ok (.ifCond .ne 45, 3) := by decide +kernel
theorem dL_isKind_66 : decode cL_isKind 66 = .ok (.iload_n 2, 1) := by decide +kernel
theorem dL_isKind_67 : decode cL_isKind 67 = .ok (.iload_n 3, 1) := by decide +kernel
theorem dL_isKind_68 : decode cL_isKind 68 = .ok (.ior, 1) := by decide +kernel
theorem dL_isKind_69 : decode cL_isKind 69 = .ok (.aload_n 1, 1) := by decide +kernel
theorem dL_isKind_70 : decode cL_isKind 70 = .ok (.getfield 88, 3) := by decide +kernel
theorem dL_isKind_73 : decode cL_isKind 73 = .ok (.if_icmp .ne 35, 3) := by decide +kernel
theorem dL_isKind_76 : decode cL_isKind 76 = .ok (.iload_n 2, 1) := by decide +kernel
theorem dL_isKind_77 : decode cL_isKind 77 = .ok (.invokestatic 129, 3) := by decide +kernel
theorem dL_isKind_80 : decode cL_isKind 80 = .ok (.iload 4, 2) := by decide +kernel
theorem dL_isKind_82 : decode cL_isKind 82 = .ok (.if_icmp .gt 26, 3) := by decide +kernel
theorem dL_isKind_85 : decode cL_isKind 85 = .ok (.iload 5, 2) := by decide +kernel
theorem dL_isKind_87 : decode cL_isKind 87 = .ok (.iload 6, 2) := by decide +kernel
theorem dL_isKind_89 : decode cL_isKind 89 = .ok (.if_icmp .ne 19, 3) := by decide +kernel
theorem dL_isKind_92 : decode cL_isKind 92 = .ok (.aload_n 0, 1) := by decide +kernel
theorem dL_isKind_93 : decode cL_isKind 93 = .ok (.bipush 7, 2) := by decide +kernel
theorem dL_isKind_95 : decode cL_isKind 95 = .ok (.invokevirtual 97, 3) := by decide +kernel
theorem dL_isKind_98 : decode cL_isKind 98 = .ok (.iload 4, 2) := by decide +kernel
theorem dL_isKind_100 : decode cL_isKind 100 = .ok (.iload_n 2, 1) := by decide +kernel
theorem dL_isKind_101 : decode cL_isKind 101 = .ok (.invokestatic 129, 3) := by decide +kernel
theorem dL_isKind_104 : decode cL_isKind 104 = .ok (.isub, 1) := by decide +kernel
theorem dL_isKind_105 : decode cL_isKind 105 = .ok (.if_icmp .eq 5, 3) := by decide +kernel
theorem dL_isKind_108 : decode cL_isKind 108 = .ok (.iconst 0, 1) := by decide +kernel
theorem dL_isKind_109 : decode cL_isKind 109 = .ok (.ireturn, 1) := by decide +kernel
theorem dL_isKind_110 : decode cL_isKind 110 = .ok (.iload 5, 2) := by decide +kernel
theorem dL_isKind_112 : decode cL_isKind 112 = .ok (.invokestatic 143, 3) := by decide +kernel
theorem dL_isKind_115 : decode cL_isKind 115 = .ok (.ifCond .ne 35, 3) := by decide +kernel
theorem dL_isKind_118 : decode cL_isKind 118 = .ok (.aload_n 1, 1) := by decide +kernel
theorem dL_isKind_119 : decode cL_isKind 119 = .ok (.getfield 72, 3) := by decide +kernel
theorem dL_isKind_122 : decode cL_isKind 122 = .ok (.ifCond .eq 11, 3) := by decide +kernel
theorem dL_isKind_125 : decode cL_isKind 125 = .ok (.aload_n 0, 1) := by decide +kernel
theorem dL_isKind_126 : decode cL_isKind 126 = .ok (.iconst 0, 1) := by decide +kernel
theorem dL_isKind_127 : decode cL_isKind 127 = .ok (.invokestatic 108, 3) := by decide +kernel
theorem dL_isKind_130 : decode cL_isKind 130 = .ok (.ifnonnull 24, 3) := by decide +kernel
theorem dL_isKind_133 : decode cL_isKind 133 = .ok (.aload_n 0, 1) := by decide +kernel
theorem dL_isKind_134 : decode cL_isKind 134 = .ok (.iconst 0, 1) := by decide +kernel
theorem dL_isKind_135 : decode cL_isKind 135 = .ok (.invokevirtual 147, 3) := by decide +kernel
theorem dL_isKind_138 : decode cL_isKind 138 = .ok (.iconst (-1), 1) := by decide +kernel
theorem dL_isKind_139 : decode cL_isKind 139 = .ok (.if_icmp .ne 15, 3) := by decide +kernel
theorem dL_isKind_142 : decode cL_isKind 142 = .ok (.aload_n 0, 1) := by decide +kernel
theorem dL_isKind_143 : decode cL_isKind 143 = .ok (.invokevirtual 150, 3) := by decide +kernel
theorem dL_isKind_146 : decode cL_isKind 146 = .ok (.iconst (-1), 1) := by decide +kernel
theorem dL_isKind_147 : decode cL_isKind 147 = .ok (.if_icmp .ne 7, 3) := by decide +kernel
theorem dL_isKind_150 : decode cL_isKind 150 = .ok (.iconst 1, 1) := by decide +kernel
theorem dL_isKind_151 : decode cL_isKind 151 = .ok (.goto 4, 3) := by decide +kernel
theorem dL_isKind_154 : decode cL_isKind 154 = .ok (.iconst 0, 1) := by decide +kernel
theorem dL_isKind_155 : decode cL_isKind 155 = .ok (.ireturn, 1) := by decide +kernel
