set_option maxRecDepth 20000 in
theorem ggL_pull_X7_pull : GoodIn wsL_pull wsX7_pull := goodIn_ca (goodIn_r _ [7, 8, 9, 10, 11, 12, 13, 14, 15, 16, 17, 18, 19, 20, 21, 22, 6, 23, 24, 25, 26, 27, 28, 29, 30, 31, 32, 33, 34, 35, 36, 37, 38, 39, 40, 41, 42, 43, 44, 45, 46, 47, 48, 49, 50, 51, 52, 53, 54, 55, 56, 57, 58, 59, 60, 61, 62, 63, 64, 65, 66, 67, 68, 69, 70, 71, 72, 73, 74, 75, 76, 77, 78, 79, 80, 81, 82, 83, 84, 85, 86, 87, 88, 89, 90, 91, 92, 93, 94, 95, 96, 97, 98, 99, 100, 101, 102, 103, 104, 105, 106, 107, 108, 109, 110, 111, 112, 113, 114, 115, 116, 117, 118, 119, 120, 121, 122, 123, 124, 125, 126, 127, 128, 129, 130, 131, 132, 133, 134, 135, 136, 137, 138, 139, 140, 141, 142, 143, 144, 145, 146, 147, 148, 149, 150, 151, 152, 153, 154, 155, 156, 157, 158, 159, 160, 161, 162, 163, 164, 165, 166, 167, 168, 169, 170, 171, 172, 173, 174, 175, 176, 177, 178, 179, 180, 181, 182, 183, 184, 185, 186, 187, 188, 189, 190, 191, 192, 193, 194, 195, 196, 197, 198, 199, 200, 201, 202, 203, 204, 205, 206, 207, 208, 209, 210, 211, 212, 213, 214, 215, 216] (by decide +kernel) (by decide +kernel)) (goodIn_sub (fun _ h => List.mem_cons_of_mem _ (List.mem_append_right _ h)) (by decide +kernel))
set_option maxRecDepth 20000 in
theorem gL_pull_X7_pull : GoodIn wsL_pull (wsV RL 7 RX7 yX7_pull wsX7_pull) := goodIn_app (goodIn_of _ (by decide +kernel)) ggL_pull_X7_pull
theorem dL_pull_0 : decode cL_pull 0 = .ok (.iconst 2, 1) := by decide +kernel
theorem dL_pull_1 : decode cL_pull 1 = .ok (.newarray .long, 2) := by decide +kernel
theorem dL_pull_3 : decode cL_pull 3 = .ok (.dup, 1) := by decide +kernel
theorem dL_pull_4 : decode cL_pull 4 = .ok (.iconst 0, 1) := by decide +kernel
theorem dL_pull_5 : decode cL_pull 5 = .ok (.aload_n 0, 1) := by decide +kernel
theorem dL_pull_6 : decode cL_pull 6 = .ok (.iload_n 1, 1) := by decide +kernel
theorem dL_pull_7 : decode cL_pull 7 = .ok (.iconst 0, 1) := by decide +kernel
theorem dL_pull_8 : decode cL_pull 8 = .ok (.invokevirtual 7, 3) := by decide +kernel
theorem dL_pull_11 : decode cL_pull 11 = .ok (.lastore, 1) := by decide +kernel
theorem dL_pull_12 : decode cL_pull 12 = .ok (.dup, 1) := by decide +kernel
theorem dL_pull_13 : decode cL_pull 13 = .ok (.iconst 1, 1) := by decide +kernel
theorem dL_pull_14 : decode cL_pull 14 = .ok (.aload_n 0, 1) := by decide +kernel
theorem dL_pull_15 : decode cL_pull 15 = .ok (.iload_n 1, 1) := by decide +kernel
theorem dL_pull_16 : decode cL_pull 16 = .ok (.iconst 1, 1) := by decide +kernel
theorem dL_pull_17 : decode cL_pull 17 = .ok (.invokevirtual 7, 3) := by decide +kernel
theorem dL_pull_20 : decode cL_pull 20 = .ok (.lastore, 1) := by decide +kernel
theorem dL_pull_21 : decode cL_pull 21 = .ok (.areturn, 1) := by decide +kernel
theorem dL_pull_22 : decode cL_pull 22 = .ok (.astore_n 2, 1) := by decide +kernel
theorem dL_pull_23 : decode cL_pull 23 = .ok (.aconst_null, 1) := by decide +kernel
theorem dL_pull_24 : decode cL_pull 24 = .ok (.areturn, 1) := by decide +kernel
set_option maxRecDepth 20000 in
theorem ggL_state_X7_state : GoodIn wsL_state wsX7_state := goodIn_ca (goodIn_r _ [7, 8, 9, 10, 11, 12, 13, 14, 15, 16, 17, 18, 19, 20, 21, 22, 23, 24, 25, 6, 26, 27, 28, 29, 30, 31, 32, 33, 34, 35, 36, 37, 38, 39, 40, 41, 42, 43, 44, 45, 46, 47, 48, 49, 50, 51, 52, 53, 54, 55, 56, 57, 58, 59, 60, 61, 62, 63, 64, 65, 66, 67, 68, 69, 70, 71, 72, 73, 74, 75, 76, 77, 78, 79, 80, 81, 82, 83, 84, 85, 86, 87, 88, 89, 90, 91, 92, 93, 94, 95, 96, 97, 98, 99, 100, 101, 102, 103, 104, 105, 106, 107, 108, 109, 110, 111, 112, 113, 114, 115, 116, 117, 118, 119, 120, 121, 122, 123, 124, 125, 126, 127, 128, 129, 130, 131, 132, 133, 134, 135, 136, 137, 138, 139, 140, 141, 142, 143, 144, 145, 146, 147, 148, 149, 150, 151, 152, 153, 154, 155, 156, 157, 158, 159, 160, 161, 162, 163, 164, 165, 166, 167, 168, 169, 170, 171, 172, 173, 174, 175, 176, 177, 178, 179, 180, 181, 182, 183, 184, 185, 186, 187, 188, 189, 190, 191, 192, 193, 194, 195, 196, 197, 198, 199, 200, 201, 202] (by decide +kernel) (by decide +kernel)) (goodIn_sub (fun _ h => List.mem_cons_of_mem _ (List.mem_append_right _ h)) (by decide +kernel))
set_option maxRecDepth 20000 in
theorem gL_state_X7_state : GoodIn wsL_state (wsV RL 15 RX7 yX7_state wsX7_state) := goodIn_app (goodIn_of _ (by decide +kernel)) ggL_state_X7_state
theorem dL_state_0 : decode cL_state 0 = .ok (.iconst 2, 1) := by decide +kernel
theorem dL_state_1 : decode cL_state 1 = .ok (.newarray .long, 2) := by decide +kernel
theorem dL_state_3 : decode cL_state 3 = .ok (.dup, 1) := by decide +kernel
theorem dL_state_4 : decode cL_state 4 = .ok (.iconst 0, 1) := by decide +kernel
theorem dL_state_5 : decode cL_state 5 = .ok (.aload_n 0, 1) := by decide +kernel
theorem dL_state_6 : decode cL_state 6 = .ok (.iload_n 1, 1) := by decide +kernel
theorem dL_state_7 : decode cL_state 7 = .ok (.iload_n 2, 1) := by decide +kernel
theorem dL_state_8 : decode cL_state 8 = .ok (.iconst 0, 1) := by decide +kernel
theorem dL_state_9 : decode cL_state 9 = .ok (.invokevirtual 15, 3) := by decide +kernel
theorem dL_state_12 : decode cL_state 12 = .ok (.lastore, 1) := by decide +kernel
theorem dL_state_13 : decode cL_state 13 = .ok (.dup, 1) := by decide +kernel
theorem dL_state_14 : decode cL_state 14 = .ok (.iconst 1, 1) := by decide +kernel
theorem dL_state_15 : decode cL_state 15 = .ok (.aload_n 0, 1) := by decide +kernel
theorem dL_state_16 : decode cL_state 16 = .ok (.iload_n 1, 1) := by decide +kernel
theorem dL_state_17 : decode cL_state 17 = .ok (.iload_n 2, 1) := by decide +kernel
theorem dL_state_18 : decode cL_state 18 = .ok (.iconst 1, 1) := by decide +kernel
theorem dL_state_19 : decode cL_state 19 = .ok (.invokevirtual 15, 3) := by decide +kernel
theorem dL_state_22 : decode cL_state 22 = .ok (.lastore, 1) := by decide +kernel
theorem dL_state_23 : decode cL_state 23 = .ok (.areturn, 1) := by decide +kernel
theorem dL_state_24 : decode cL_state 24 = .ok (.astore_n 3, 1) := by decide +kernel
theorem dL_state_25 : decode cL_state 25 = .ok (.aconst_null, 1) := by decide +kernel
theorem dL_state_26 : decode cL_state 26 = .ok (.areturn, 1) := by decide +kernel
set_option maxRecDepth 20000 in
theorem ggL_force_X7_force : GoodIn wsL_force wsX7_force := goodIn_ca (goodIn_r _ [7, 8, 9, 10, 11, 12, 13, 14, 15, 16, 17, 18, 19, 20, 21, 22, 6, 23, 24, 25, 26, 27, 28, 29, 30, 31, 32, 33, 34, 35, 36, 37, 38, 39, 40, 41, 42, 43, 44, 45, 46, 47, 48, 49, 50, 51, 52, 53, 54, 55, 56, 57, 58, 59, 60, 61, 62, 63, 64, 65, 66, 67, 68, 69, 70, 71, 72, 73, 74, 75, 76, 77, 78, 79, 80, 81, 82, 83, 84, 85, 86, 87, 88, 89, 90, 91, 92, 93, 94, 95, 96, 97, 98, 99, 100, 101, 102, 103, 104, 105, 106, 107, 108, 109, 110, 111, 112, 113, 114, 115, 116, 117, 118, 119, 120, 121, 122, 123, 124, 125, 126, 127, 128, 129, 130, 131, 132, 133, 134, 135, 136, 137, 138, 139, 140, 141, 142, 143, 144, 145, 146, 147, 148, 149, 150, 151, 152, 153, 154, 155, 156, 157, 158, 159, 160, 161, 162, 163, 164, 165, 166, 167, 168, 169, 170, 171, 172, 173, 174, 175, 176, 177, 178, 179, 180, 181, 182, 183, 184, 185, 186, 187, 188, 189, 190, 191, 192, 193, 194, 195, 196, 197, 198, 199, 200, 201, 202, 203, 204, 205, 206, 207, 208, 209, 210, 211, 212, 213, 214, 215, 216, 217, 218, 219, 220, 221, 222, 223] (by decide +kernel) (by decide +kernel)) (goodIn_sub (fun _ h => List.mem_cons_of_mem _ (List.mem_append_right _ h)) (by decide +kernel))
set_option maxRecDepth 20000 in
theorem gL_force_X7_force : GoodIn wsL_force (wsV RL 19 RX7 yX7_force wsX7_force) := goodIn_app (goodIn_of _ (by decide +kernel)) ggL_force_X7_force
theorem dL_force_0 : decode cL_force 0 = .ok (.iconst 2, 1) := by decide +kernel
theorem dL_force_1 : decode cL_force 1 = .ok (.newarray .long, 2) := by decide +kernel
theorem dL_force_3 : decode cL_force 3 = .ok (.dup, 1) := by decide +kernel
theorem dL_force_4 : decode cL_force 4 = .ok (.iconst 0, 1) := by decide +kernel
theorem dL_force_5 : decode cL_force 5 = .ok (.aload_n 0, 1) := by decide +kernel
theorem dL_force_6 : decode cL_force 6 = .ok (.iload_n 1, 1) := by decide +kernel
theorem dL_force_7 : decode cL_force 7 = .ok (.iload_n 2, 1) := by decide +kernel
theorem dL_force_8 : decode cL_force 8 = .ok (.iconst 0, 1) := by decide +kernel
theorem dL_force_9 : decode cL_force 9 = .ok (.invokevirtual 19, 3) := by decide +kernel
theorem dL_force_12 : decode cL_force 12 = .ok (.lastore, 1) := by decide +kernel
theorem dL_force_13 : decode cL_force 13 = .ok (.dup, 1) := by decide +kernel
theorem dL_force_14 : decode cL_force 14 = .ok (.iconst 1, 1) := by decide +kernel
theorem dL_force_15 : decode cL_force 15 = .ok (.aload_n 0, 1) := by decide +kernel
theorem dL_force_16 : decode cL_force 16 = .ok (.iload_n 1, 1) := by decide +kernel
theorem dL_force_17 : decode cL_force 17 = .ok (.iload_n 2, 1) := by decide +kernel
theorem dL_force_18 : decode cL_force 18 = .ok (.iconst 1, 1) := by decide +kernel
theorem dL_force_19 : decode cL_force 19 = .ok (.invokevirtual 19, 3) := by decide +kernel
theorem dL_force_22 : decode cL_force 22 = .ok (.lastore, 1) := by decide +kernel
theorem dL_force_23 : decode cL_force 23 = .ok (.areturn, 1) := by decide +kernel
theorem dL_force_24 : decode cL_force 24 = .ok (.astore_n 3, 1) := by decide +kernel
theorem dL_force_25 : decode cL_force 25 = .ok (.aconst_null, 1) := by decide +kernel
theorem dL_force_26 : decode cL_force 26 = .ok (.areturn, 1) := by decide +kernel
theorem dL_common_0 : decode cL_common 0 = .ok (.lload_n 0, 1) := by decide +kernel
theorem dL_common_1 : decode cL_common 1 = .ok (.invokestatic 22, 3) := by decide +kernel
theorem dL_common_4 : decode cL_common 4 = .ok (.lstore 4, 2) := by decide +kernel
theorem dL_common_6 : decode cL_common 6 = .ok (.lload_n 2, 1) := by decide +kernel
theorem dL_common_7 : decode cL_common 7 = .ok (.invokestatic 22, 3) := by decide +kernel
theorem dL_common_10 : decode cL_common 10 = .ok (.lstore 6, 2) := by decide +kernel
theorem dL_common_12 : decode cL_common 12 = .ok (.lload 6, 2) := by decide +kernel
theorem dL_common_14 : decode cL_common 14 = .ok (.lconst 0, 1) := by decide +kernel
theorem dL_common_15 : decode cL_common 15 = .ok (.lcmp, 1) := by decide +kernel
theorem dL_common_16 : decode cL_common 16 = .ok (.ifCond .eq 21, 3) := by decide +kernel
theorem dL_common_19 : decode cL_common 19 = .ok (.lload 4, 2) := by decide +kernel
theorem dL_common_21 : decode cL_common 21 = .ok (.lload 6, 2) := by decide +kernel
theorem dL_common_23 : decode cL_common 23 = .ok (.lrem, 1) := by decide +kernel
theorem dL_common_24 : decode cL_common 24 = .ok (.lstore 8, 2) := by decide +kernel
theorem dL_common_26 : decode cL_common 26 = .ok (.lload 6, 2) := by decide +kernel
theorem dL_common_28 : decode cL_common 28 = .ok (.lstore 4, 2) := by decide +kernel
theorem dL_common_30 : decode cL_common 30 = .ok (.lload 8, 2) := by decide +kernel
theorem dL_common_32 : decode cL_common 32 = .ok (.lstore 6, 2) := by decide +kernel
theorem dL_common_34 : decode cL_common 34 = .ok (.goto (-22), 3) := by decide +kernel
theorem dL_common_37 : decode cL_common 37 = .ok (.lload 4, 2) := by decide +kernel
theorem dL_common_39 : decode cL_common 39 = .ok (.lreturn, 1) := by decide +kernel
set_option maxRecDepth 20000 in
theorem ggL_told_L_common : GoodIn wsL_told wsL_common := goodIn_r _ [5, 6, 7, 8, 9] (by decide +kernel) (by decide +kernel)
set_option maxRecDepth 20000 in
theorem gL_told_L_common : GoodIn wsL_told (va_wsS RL 28 yL_common wsL_common) := goodIn_app (goodIn_of _ (by decide +kernel)) ggL_told_L_common
theorem dL_told_0 : decode cL_told 0 = .ok (.lload_n 0, 1) := by decide +kernel
theorem dL_told_1 : decode cL_told 1 = .ok (.lload_n 2, 1) := by decide +kernel
theorem dL_told_2 : decode cL_told 2 = .ok (.invokestatic 28, 3) := by decide +kernel
theorem dL_told_5 : decode cL_told 5 = .ok (.lstore 4, 2) := by decide +kernel
theorem dL_told_7 : decode cL_told 7 = .ok (.lload_n 2, 1) := by decide +kernel
theorem dL_told_8 : decode cL_told 8 = .ok (.lconst 0, 1) := by decide +kernel
theorem dL_told_9 : decode cL_told 9 = .ok (.lcmp, 1) := by decide +kernel
theorem dL_told_10 : decode cL_told 10 = .ok (.ifCond .ge 25, 3) := by decide +kernel
theorem dL_told_13 : decode cL_told 13 = .ok (.iconst 2, 1) := by decide +kernel
theorem dL_told_14 : decode cL_told 14 = .ok (.newarray .long, 2) := by decide +kernel
theorem dL_told_16 : decode cL_told 16 = .ok (.dup, 1) := by decide +kernel
theorem dL_told_17 : decode cL_told 17 = .ok (.iconst 0, 1) := by decide +kernel
theorem dL_told_18 : decode cL_told 18 = .ok (.lload_n 0, 1) := by decide +kernel
theorem dL_told_19 : decode cL_told 19 = .ok (.lneg, 1) := by decide +kernel
theorem dL_told_20 : decode cL_told 20 = .ok (.lload 4, 2) := by decide +kernel
theorem dL_told_22 : decode cL_told 22 = .ok (.ldiv, 1) := by decide +kernel
theorem dL_told_23 : decode cL_told 23 = .ok (.lastore, 1) := by decide +kernel
theorem dL_told_24 : decode cL_told 24 = .ok (.dup, 1) := by decide +kernel
theorem dL_told_25 : decode cL_told 25 = .ok (.iconst 1, 1) := by decide +kernel
theorem dL_told_26 : decode cL_told 26 = .ok (.lload_n 2, 1) := by decide +kernel
theorem dL_told_27 : decode cL_told 27 = .ok (.lneg, 1) := by decide +kernel
theorem dL_told_28 : decode cL_told 28 = .ok (.lload 4, 2) := by decide +kernel
theorem dL_told_30 : decode cL_told 30 = .ok (.ldiv, 1) := by decide +kernel
theorem dL_told_31 : decode cL_told 31 = .ok (.lastore, 1) := by decide +kernel
theorem dL_told_32 : decode cL_told 32 = .ok (.goto 20, 3) := by decide +kernel
theorem dL_told_35 : decode cL_told 35 = .ok (.iconst 2, 1) := by decide +kernel
theorem dL_told_36 : decode cL_told 36 = .ok (.newarray .long, 2) := by decide +kernel
theorem dL_told_38 : decode cL_told 38 = .ok (.dup, 1) := by decide +kernel
theorem dL_told_39 : decode cL_told 39 = .ok (.iconst 0, 1) := by decide +kernel
theorem dL_told_40 : decode cL_told 40 = .ok (.lload_n 0, 1) := by decide +kernel
theorem dL_told_41 : decode cL_told 41 = .ok (.lload 4, 2) := by decide +kernel
theorem dL_told_43 : decode cL_told 43 = .ok (.ldiv, 1) := by decide +kernel
theorem dL_told_44 : decode cL_told 44 = .ok (.lastore, 1) := by decide +kernel
theorem dL_told_45 : decode cL_told 45 = .ok (.dup, 1) := by decide +kernel
theorem dL_told_46 : decode cL_told 46 = .ok (.iconst 1, 1) := by decide +kernel
theorem dL_told_47 : decode cL_told 47 = .ok (.lload_n 2, 1) := by decide +kernel
theorem dL_told_48 : decode cL_told 48 = .ok (.lload 4, 2) := by decide +kernel
theorem dL_told_50 : decode cL_told 50 = .ok (.ldiv, 1) := by decide +kernel
theorem dL_told_51 : decode cL_told 51 = .ok (.lastore, 1) := by decide +kernel
theorem dL_told_52 : decode cL_told 52 = .ok (.areturn, 1) := by decide +kernel
set_option maxRecDepth 20000 in
theorem ggL_begins_X9_init : GoodIn wsL_begins wsX9_init := goodIn_r _ [9, 10, 11, 12, 13, 14, 15, 16, 17, 18, 19, 20, 206, 207, 208, 209, 210, 211, 212, 213, 214, 215] (by decide +kernel) (by decide +kernel)
set_option maxRecDepth 20000 in
theorem gL_begins_X9_init_n40 : GoodIn wsL_begins (wsX9_init) := ggL_begins_X9_init
set_option maxRecDepth 20000 in
theorem ggL_begins_X8_next : GoodIn wsL_begins wsX8_next := goodIn_r _ [25, 26, 27, 216] (by decide +kernel) (by decide +kernel)
set_option maxRecDepth 20000 in
theorem gL_begins_X8_next : GoodIn wsL_begins (wsV RL 41 RX8 yX8_next wsX8_next) := goodIn_app (goodIn_of _ (by decide +kernel)) ggL_begins_X8_next
set_option maxRecDepth 20000 in
theorem ggL_begins_X7_pin : GoodIn wsL_begins wsX7_pin := goodIn_r _ [32, 33, 34, 35, 36, 37, 31, 38, 39, 40, 41, 42, 43, 44, 45, 46, 47, 48, 49, 217, 218, 219, 220, 221, 222, 223, 224, 225, 226, 227, 228, 229, 230, 231, 232, 233] (by decide +kernel) (by decide +kernel)
set_option maxRecDepth 20000 in
theorem gL_begins_X7_pin : GoodIn wsL_begins (wsV RL 58 RX7 yX7_pin wsX7_pin) := goodIn_app (goodIn_of _ (by decide +kernel)) ggL_begins_X7_pin
set_option maxRecDepth 20000 in
theorem ggL_begins_X7_hold : GoodIn wsL_begins wsX7_hold := goodIn_r _ [53, 33, 54, 55, 56, 57, 42, 58, 44, 59, 60, 31, 61, 217, 218, 219, 220, 221, 222, 223, 224, 225, 226, 227, 228, 229, 230, 231, 232, 233] (by decide +kernel) (by decide +kernel)
set_option maxRecDepth 20000 in
theorem gL_begins_X7_hold : GoodIn wsL_begins (wsV RL 62 RX7 yX7_hold wsX7_hold) := goodIn_app (goodIn_of _ (by decide +kernel)) ggL_begins_X7_hold
set_option maxRecDepth 20000 in
theorem ggL_begins_X7_bar : GoodIn wsL_begins wsX7_bar := goodIn_r _ [65, 33, 66, 55, 56, 57, 42, 58, 44, 67, 68, 31, 69, 70, 71, 72, 73, 74, 75, 76, 77, 78, 79, 80, 81, 82, 83, 217, 218, 219, 220, 221, 222, 223, 224, 225, 226, 227, 228, 229, 230, 231, 232, 233] (by decide +kernel) (by decide +kernel)
set_option maxRecDepth 20000 in
theorem gL_begins_X7_bar : GoodIn wsL_begins (wsV RL 81 RX7 yX7_bar wsX7_bar) := goodIn_app (goodIn_of _ (by decide +kernel)) ggL_begins_X7_bar
set_option maxRecDepth 20000 in
theorem ggL_begins_X7_load : GoodIn wsL_begins wsX7_load := goodIn_r _ [87, 33, 88, 55, 56, 57, 42, 58, 44, 89, 90, 31, 91, 217, 218, 219, 220, 221, 222, 223, 224, 225, 226, 227, 228, 229, 230, 231, 232, 233] (by decide +kernel) (by decide +kernel)
set_option maxRecDepth 20000 in
theorem gL_begins_X7_load : GoodIn wsL_begins (wsV RL 94 RX7 yX7_load wsX7_load) := goodIn_app (goodIn_of _ (by decide +kernel)) ggL_begins_X7_load
set_option maxRecDepth 20000 in
theorem ggL_begins_X7_count : GoodIn wsL_begins wsX7_count := goodIn_r _ [95, 33, 34, 66, 96, 97, 98, 99, 100, 101, 102, 103, 104, 105, 106, 107, 108, 109, 110, 111, 112, 113, 114, 115, 116, 117, 118, 42, 119, 74, 83, 75, 76, 120, 31, 121, 122, 123, 124, 125, 126, 127, 128, 129, 130, 131, 132, 133, 134, 135, 136, 137, 138, 139, 140, 141, 142, 45, 143, 144, 145, 146, 147, 148, 149, 150, 151, 152, 153, 154, 155, 156, 157, 158, 159, 160, 161, 162, 163, 164, 165, 166, 167, 168, 169, 170, 171, 172, 173, 174, 175, 176, 177, 178, 179, 180, 181, 182, 183, 184, 185, 186, 187, 188, 189, 190, 191, 192, 193, 194, 195, 196, 197, 198, 199, 200, 201, 202, 203, 204, 5, 6, 7, 205, 217, 218, 219, 220, 221, 222, 223, 224, 225, 226, 227, 228, 229, 230, 231, 232, 233, 234, 235, 236, 237, 238, 239, 240, 241, 242, 243, 244, 245, 246, 247, 248, 249, 250, 251] (by decide +kernel) (by decide +kernel)
set_option maxRecDepth 20000 in
theorem gL_begins_X7_count : GoodIn wsL_begins (wsV RL 97 RX7 yX7_count wsX7_count) := goodIn_app (goodIn_of _ (by decide +kernel)) ggL_begins_X7_count
theorem dL_begins_0 : decode cL_begins 0 = .ok (.new 38, 3) := by decide +kernel
theorem dL_begins_3 : decode cL_begins 3 = .ok (.dup, 1) := by decide +kernel
theorem dL_begins_4 : decode cL_begins 4 = .ok (.invokespecial 40, 3) := by decide +kernel
theorem dL_begins_7 : decode cL_begins 7 = .ok (.astore_n 3, 1) := by decide +kernel
theorem dL_begins_8 : decode cL_begins 8 = .ok (.iconst 3, 1) := by decide +kernel
theorem dL_begins_9 : decode cL_begins 9 = .ok (.aload_n 1, 1) := by decide +kernel
theorem dL_begins_10 : decode cL_begins 10 = .ok (.iload_n 2, 1) := by decide +kernel
theorem dL_begins_11 : decode cL_begins 11 = .ok (.iconst 2, 1) := by decide +kernel
theorem dL_begins_12 : decode cL_begins 12 = .ok (.isub, 1) := by decide +kernel
theorem dL_begins_13 : decode cL_begins 13 = .ok (.invokevirtual 41, 3) := by decide +kernel
theorem dL_begins_16 : decode cL_begins 16 = .ok (.iadd, 1) := by decide +kernel
theorem dL_begins_17 : decode cL_begins 17 = .ok (.istore 4, 2) := by decide +kernel
theorem dL_begins_19 : decode cL_begins 19 = .ok (.aload_n 3, 1) := by decide +kernel
theorem dL_begins_20 : decode cL_begins 20 = .ok (.getfield 47, 3) := by decide +kernel
theorem dL_begins_23 : decode cL_begins 23 = .ok (.iload 4, 2) := by decide +kernel
theorem dL_begins_25 : decode cL_begins 25 = .ok (.if_icmp .ge 140, 3) := by decide +kernel
theorem dL_begins_28 : decode cL_begins 28 = .ok (.aload_n 1, 1) := by decide +kernel
theorem dL_begins_29 : decode cL_begins 29 = .ok (.iconst 4, 1) := by decide +kernel
theorem dL_begins_30 : decode cL_begins 30 = .ok (.invokevirtual 41, 3) := by decide +kernel
theorem dL_begins_33 : decode cL_begins 33 = .ok (.istore 5, 2) := by decide +kernel
theorem dL_begins_35 : decode cL_begins 35 = .ok (.aload_n 1, 1) := by decide +kernel
theorem dL_begins_36 : decode cL_begins 36 = .ok (.iconst 3, 1) := by decide +kernel
theorem dL_begins_37 : decode cL_begins 37 = .ok (.invokevirtual 41, 3) := by decide +kernel
theorem dL_begins_40 : decode cL_begins 40 = .ok (.istore 6, 2) := by decide +kernel
theorem dL_begins_42 : decode cL_begins 42 = .ok (.iconst 1, 1) := by decide +kernel
theorem dL_begins_43 : decode cL_begins 43 = .ok (.istore 7, 2) := by decide +kernel
theorem dL_begins_45 : decode cL_begins 45 = .ok (.iconst 0, 1) := by decide +kernel
theorem dL_begins_46 : decode cL_begins 46 = .ok (.istore 8, 2) := by decide +kernel
theorem dL_begins_48 : decode cL_begins 48 = .ok (.iload 8, 2) := by decide +kernel
theorem dL_begins_50 : decode cL_begins 50 = .ok (.aload_n 3, 1) := by decide +kernel
theorem dL_begins_51 : decode cL_begins 51 = .ok (.getfield 47, 3) := by decide +kernel
theorem dL_begins_54 : decode cL_begins 54 = .ok (.if_icmp .ge 45, 3) := by decide +kernel
theorem dL_begins_57 : decode cL_begins 57 = .ok (.iload 7, 2) := by decide +kernel
theorem dL_begins_59 : decode cL_begins 59 = .ok (.ifCond .eq 31, 3) := by decide +kernel
theorem dL_begins_62 : decode cL_begins 62 = .ok (.aload_n 3, 1) := by decide +kernel
theorem dL_begins_63 : decode cL_begins 63 = .ok (.getfield 51, 3) := by decide +kernel
theorem dL_begins_66 : decode cL_begins 66 = .ok (.iload 8, 2) := by decide +kernel
theorem dL_begins_68 : decode cL_begins 68 = .ok (.iaload, 1) := by decide +kernel
theorem dL_begins_69 : decode cL_begins 69 = .ok (.iload 5, 2) := by decide +kernel
theorem dL_begins_71 : decode cL_begins 71 = .ok (.if_icmp .ne 15, 3) := by decide +kernel
theorem dL_begins_74 : decode cL_begins 74 = .ok (.aload_n 3, 1) := by decide +kernel
theorem dL_begins_75 : decode cL_begins 75 = .ok (.getfield 55, 3) := by decide +kernel
theorem dL_begins_78 : decode cL_begins 78 = .ok (.iload 8, 2) := by decide +kernel
theorem dL_begins_80 : decode cL_begins 80 = .ok (.iaload, 1) := by decide +kernel
theorem dL_begins_81 : decode cL_begins 81 = .ok (.iload 6, 2) := by decide +kernel
theorem dL_begins_83 : decode cL_begins 83 = .ok (.if_icmp .eq 7, 3) := by decide +kernel
theorem dL_begins_86 : decode cL_begins 86 = .ok (.iconst 1, 1) := by decide +kernel
theorem dL_begins_87 : decode cL_begins 87 = .ok (.goto 4, 3) := by decide +kernel
theorem dL_begins_90 : decode cL_begins 90 = .ok (.iconst 0, 1) := by decide +kernel
theorem dL_begins_91 : decode cL_begins 91 = .ok (.istore 7, 2) := by decide +kernel
theorem dL_begins_93 : decode cL_begins 93 = .ok (.iinc 8 1, 3) := by decide +kernel
theorem dL_begins_96 : decode cL_begins 96 = .ok (.goto (-48), 3) := by decide +kernel
theorem dL_begins_99 : decode cL_begins 99 = .ok (.aload_n 0, 1) := by decide +kernel
theorem dL_begins_100 : decode cL_begins 100 = .ok (.iload 5, 2) := by decide +kernel
theorem dL_begins_102 : decode cL_begins 102 = .ok (.iload 6, 2) := by decide +kernel
theorem dL_begins_104 : decode cL_begins 104 = .ok (.invokevirtual 58, 3) := by decide +kernel
theorem dL_begins_107 : decode cL_begins 107 = .ok (.istore 8, 2) := by decide +kernel
theorem dL_begins_109 : decode cL_begins 109 = .ok (.iload 8, 2) := by decide +kernel
theorem dL_begins_111 : decode cL_begins 111 = .ok (.iload 7, 2) := by decide +kernel
theorem dL_begins_113 : decode cL_begins 113 = .ok (.ifCond .eq 10, 3) := by decide +kernel
theorem dL_begins_116 : decode cL_begins 116 = .ok (.aload_n 3, 1) := by decide +kernel
theorem dL_begins_117 : decode cL_begins 117 = .ok (.getfield 47, 3) := by decide +kernel
theorem dL_begins_120 : decode cL_begins 120 = .ok (.goto 4, 3) := by decide +kernel
theorem dL_begins_123 : decode cL_begins 123 = .ok (.iconst (-1), 1) := by decide +kernel
theorem dL_begins_124 : decode cL_begins 124 = .ok (.if_icmp .eq 5, 3) := by decide +kernel
theorem dL_begins_127 : decode cL_begins 127 = .ok (.aconst_null, 1) := by decide +kernel
theorem dL_begins_128 : decode cL_begins 128 = .ok (.areturn, 1) := by decide +kernel
theorem dL_begins_129 : decode cL_begins 129 = .ok (.iload 7, 2) := by decide +kernel
theorem dL_begins_131 : decode cL_begins 131 = .ok (.ifCond .eq 31, 3) := by decide +kernel
theorem dL_begins_134 : decode cL_begins 134 = .ok (.aload_n 3, 1) := by decide +kernel
theorem dL_begins_135 : decode cL_begins 135 = .ok (.getfield 51, 3) := by decide +kernel
theorem dL_begins_138 : decode cL_begins 138 = .ok (.iload 8, 2) := by decide +kernel
theorem dL_begins_140 : decode cL_begins 140 = .ok (.iload 5, 2) := by decide +kernel
theorem dL_begins_142 : decode cL_begins 142 = .ok (.iastore, 1) := by decide +kernel
theorem dL_begins_143 : decode cL_begins 143 = .ok (.aload_n 3, 1) := by decide +kernel
theorem dL_begins_144 : decode cL_begins 144 = .ok (.getfield 55, 3) := by decide +kernel
theorem dL_begins_147 : decode cL_begins 147 = .ok (.iload 8, 2) := by decide +kernel
theorem dL_begins_149 : decode cL_begins 149 = .ok (.iload 6, 2) := by decide +kernel
theorem dL_begins_151 : decode cL_begins 151 = .ok (.iastore, 1) := by decide +kernel
theorem dL_begins_152 : decode cL_begins 152 = .ok (.aload_n 3, 1) := by decide +kernel
theorem dL_begins_153 : decode cL_begins 153 = .ok (.dup, 1) := by decide +kernel
theorem dL_begins_154 : decode cL_begins 154 = .ok (.getfield 47, 3) := by decide +kernel
theorem dL_begins_157 : decode cL_begins 157 = .ok (.iconst 1, 1) := by decide +kernel
theorem dL_begins_158 : decode cL_begins 158 = .ok (.iadd, 1) := by decide +kernel
theorem dL_begins_159 : decode cL_begins 159 = .ok (.putfield 47, 3) := by decide +kernel
theorem dL_begins_162 : decode cL_begins 162 = .ok (.goto (-143), 3) := by decide +kernel
theorem dL_begins_165 : decode cL_begins 165 = .ok (.iconst 2, 1) := by decide +kernel
theorem dL_begins_166 : decode cL_begins 166 = .ok (.iload 4, 2) := by decide +kernel
theorem dL_begins_168 : decode cL_begins 168 = .ok (.imul, 1) := by decide +kernel
theorem dL_begins_169 : decode cL_begins 169 = .ok (.istore 5, 2) := by decide +kernel
theorem dL_begins_171 : decode cL_begins 171 = .ok (.iconst 0, 1) := by decide +kernel
theorem dL_begins_172 : decode cL_begins 172 = .ok (.istore 6, 2) := by decide +kernel
theorem dL_begins_174 : decode cL_begins 174 = .ok (.iload 6, 2) := by decide +kernel
theorem dL_begins_176 : decode cL_begins 176 = .ok (.iload 4, 2) := by decide +kernel
theorem dL_begins_178 : decode cL_begins 178 = .ok (.if_icmp .ge 105, 3) := by decide +kernel
theorem dL_begins_181 : decode cL_begins 181 = .ok (.iload 6, 2) := by decide +kernel
theorem dL_begins_183 : decode cL_begins 183 = .ok (.ifCond .ne 7, 3) := by decide +kernel
theorem dL_begins_186 : decode cL_begins 186 = .ok (.iconst 3, 1) := by decide +kernel
theorem dL_begins_187 : decode cL_begins 187 = .ok (.goto 36, 3) := by decide +kernel
theorem dL_begins_190 : decode cL_begins 190 = .ok (.iload 6, 2) := by decide +kernel
theorem dL_begins_192 : decode cL_begins 192 = .ok (.iconst 1, 1) := by decide +kernel
theorem dL_begins_193 : decode cL_begins 193 = .ok (.if_icmp .ne 13, 3) := by decide +kernel
theorem dL_begins_196 : decode cL_begins 196 = .ok (.iconst 1, 1) := by decide +kernel
theorem dL_begins_197 : decode cL_begins 197 = .ok (.aload_n 1, 1) := by decide +kernel
theorem dL_begins_198 : decode cL_begins 198 = .ok (.iconst 3, 1) := by decide +kernel
theorem dL_begins_199 : decode cL_begins 199 = .ok (.invokevirtual 41, 3) := by decide +kernel
theorem dL_begins_202 : decode cL_begins 202 = .ok (.iadd, 1) := by decide +kernel
theorem dL_begins_203 : decode cL_begins 203 = .ok (.goto 20, 3) := by decide +kernel
theorem dL_begins_206 : decode cL_begins 206 = .ok (.aload_n 1, 1) := by decide +kernel
theorem dL_begins_207 : decode cL_begins 207 = .ok (.iconst 5, 1) := by decide +kernel
theorem dL_begins_208 : decode cL_begins 208 = .ok (.invokevirtual 41, 3) := by decide +kernel
theorem dL_begins_211 : decode cL_begins 211 = .ok (.ifCond .ne 11, 3) := by decide +kernel
theorem dL_begins_214 : decode cL_begins 214 = .ok (.aload_n 1, 1) := by decide +kernel
theorem dL_begins_215 : decode cL_begins 215 = .ok (.iconst 4, 1) := by decide +kernel
theorem dL_begins_216 : decode cL_begins 216 = .ok (.invokevirtual 41, 3) := by decide +kernel
theorem dL_begins_219 : decode cL_begins 219 = .ok (.goto 4, 3) := by decide +kernel
theorem dL_begins_222 : decode cL_begins 222 = .ok (.iconst 0, 1) := by decide +kernel
theorem dL_begins_223 : decode cL_begins 223 = .ok (.istore 7, 2) := by decide +kernel
theorem dL_begins_225 : decode cL_begins 225 = .ok (.iconst 0, 1) := by decide +kernel
theorem dL_begins_226 : decode cL_begins 226 = .ok (.istore 8, 2) := by decide +kernel
theorem dL_begins_228 : decode cL_begins 228 = .ok (.iload 8, 2) := by decide +kernel
theorem dL_begins_230 : decode cL_begins 230 = .ok (.iconst 2, 1) := by decide +kernel
theorem dL_begins_231 : decode cL_begins 231 = .ok (.if_icmp .ge 37, 3) := by decide +kernel
theorem dL_begins_234 : decode cL_begins 234 = .ok (.iload 7, 2) := by decide +kernel
theorem dL_begins_236 : decode cL_begins 236 = .ok (.iload 8, 2) := by decide +kernel
theorem dL_begins_238 : decode cL_begins 238 = .ok (.ishr, 1) := by decide +kernel
theorem dL_begins_239 : decode cL_begins 239 = .ok (.iconst 1, 1) := by decide +kernel
theorem dL_begins_240 : decode cL_begins 240 = .ok (.iand, 1) := by decide +kernel
theorem dL_begins_241 : decode cL_begins 241 = .ok (.iconst 1, 1) := by decide +kernel
theorem dL_begins_242 : decode cL_begins 242 = .ok (.if_icmp .ne 20, 3) := by decide +kernel
theorem dL_begins_245 : decode cL_begins 245 = .ok (.aload_n 0, 1) := by decide +kernel
theorem dL_begins_246 : decode cL_begins 246 = .ok (.iload 6, 2) := by decide +kernel
theorem dL_begins_248 : decode cL_begins 248 = .ok (.iload 8, 2) := by decide +kernel
theorem dL_begins_250 : decode cL_begins 250 = .ok (.iconst 1, 1) := by decide +kernel
theorem dL_begins_251 : decode cL_begins 251 = .ok (.invokevirtual 62, 3) := by decide +kernel
theorem dL_begins_254 : decode cL_begins 254 = .ok (.ifCond .ne 5, 3) := by decide +kernel
theorem dL_begins_257 : decode cL_begins 257 = .ok (.aconst_null, 1) := by decide +kernel
theorem dL_begins_258 : decode cL_begins 258 = .ok (.areturn, 1) := by decide +kernel
theorem dL_begins_259 : decode cL_begins 259 = .ok (.iinc 5 (-1), 3) := by decide +kernel
theorem dL_begins_262 : decode cL_begins 262 = .ok (.iinc 8 1, 3) := by decide +kernel
theorem dL_begins_265 : decode cL_begins 265 = .ok (.goto (-37), 3) := by decide +kernel
theorem dL_begins_268 : decode cL_begins 268 = .ok (.aload_n 3, 1) := by decide +kernel
theorem dL_begins_269 : decode cL_begins 269 = .ok (.getfield 66, 3) := by decide +kernel
theorem dL_begins_272 : decode cL_begins 272 = .ok (.iload 6, 2) := by decide +kernel
theorem dL_begins_274 : decode cL_begins 274 = .ok (.iload 7, 2) := by decide +kernel
theorem dL_begins_276 : decode cL_begins 276 = .ok (.iastore, 1) := by decide +kernel
theorem dL_begins_277 : decode cL_begins 277 = .ok (.iinc 6 1, 3) := by decide +kernel
theorem dL_begins_280 : decode cL_begins 280 = .ok (.goto (-106), 3) := by decide +kernel
theorem dL_begins_283 : decode cL_begins 283 = .ok (.bipush 11, 2) := by decide +kernel
theorem dL_begins_285 : decode cL_begins 285 = .ok (.iload 5, 2) := by decide +kernel
theorem dL_begins_287 : decode cL_begins 287 = .ok (.aload_n 1, 1) := by decide +kernel
theorem dL_begins_288 : decode cL_begins 288 = .ok (.iconst 3, 1) := by decide +kernel
theorem dL_begins_289 : decode cL_begins 289 = .ok (.invokevirtual 41, 3) := by decide +kernel
theorem dL_begins_292 : decode cL_begins 292 = .ok (.iadd, 1) := by decide +kernel
theorem dL_begins_293 : decode cL_begins 293 = .ok (.invokestatic 69, 3) := by decide +kernel
theorem dL_begins_296 : decode cL_begins 296 = .ok (.istore 6, 2) := by decide +kernel
theorem dL_begins_298 : decode cL_begins 298 = .ok (.iconst 0, 1) := by decide +kernel
theorem dL_begins_299 : decode cL_begins 299 = .ok (.istore 7, 2) := by decide +kernel
theorem dL_begins_301 : decode cL_begins 301 = .ok (.iload 7, 2) := by decide +kernel
theorem dL_begins_303 : decode cL_begins 303 = .ok (.bipush 40, 2) := by decide +kernel
theorem dL_begins_305 : decode cL_begins 305 = .ok (.if_icmp .ge 225, 3) := by decide +kernel
theorem dL_begins_308 : decode cL_begins 308 = .ok (.aload_n 3, 1) := by decide +kernel
theorem dL_begins_309 : decode cL_begins 309 = .ok (.getfield 72, 3) := by decide +kernel
theorem dL_begins_312 : decode cL_begins 312 = .ok (.iload 6, 2) := by decide +kernel
theorem dL_begins_314 : decode cL_begins 314 = .ok (.if_icmp .ge 216, 3) := by decide +kernel
theorem dL_begins_317 : decode cL_begins 317 = .ok (.aload_n 1, 1) := by decide +kernel
theorem dL_begins_318 : decode cL_begins 318 = .ok (.iload 4, 2) := by decide +kernel
theorem dL_begins_320 : decode cL_begins 320 = .ok (.invokevirtual 41, 3) := by decide +kernel
theorem dL_begins_323 : decode cL_begins 323 = .ok (.istore 8, 2) := by decide +kernel
theorem dL_begins_325 : decode cL_begins 325 = .ok (.iload 8, 2) := by decide +kernel
theorem dL_begins_327 : decode cL_begins 327 = .ok (.iconst 1, 1) := by decide +kernel
theorem dL_begins_328 : decode cL_begins 328 = .ok (.iadd, 1) := by decide +kernel
theorem dL_begins_329 : decode cL_begins 329 = .ok (.aload_n 1, 1) := by decide +kernel
theorem dL_begins_330 : decode cL_begins 330 = .ok (.iload 4, 2) := by decide +kernel
theorem dL_begins_332 : decode cL_begins 332 = .ok (.iconst 1, 1) := by decide +kernel
theorem dL_begins_333 : decode cL_begins 333 = .ok (.isub, 1) := by decide +kernel
theorem dL_begins_334 : decode cL_begins 334 = .ok (.invokevirtual 41, 3) := by decide +kernel
theorem dL_begins_337 : decode cL_begins 337 = .ok (.iadd, 1) := by decide +kernel
theorem dL_begins_338 : decode cL_begins 338 = .ok (.iload 4, 2) := by decide +kernel
theorem dL_begins_340 : decode cL_begins 340 = .ok (.irem, 1) := by decide +kernel
theorem dL_begins_341 : decode cL_begins 341 = .ok (.istore 9, 2) := by decide +kernel
theorem dL_begins_343 : decode cL_begins 343 = .ok (.iconst 1, 1) := by decide +kernel
theorem dL_begins_344 : decode cL_begins 344 = .ok (.aload_n 1, 1) := by decide +kernel
theorem dL_begins_345 : decode cL_begins 345 = .ok (.iconst 3, 1) := by decide +kernel
theorem dL_begins_346 : decode cL_begins 346 = .ok (.invokevirtual 41, 3) := by decide +kernel
theorem dL_begins_349 : decode cL_begins 349 = .ok (.iadd, 1) := by decide +kernel
theorem dL_begins_350 : decode cL_begins 350 = .ok (.istore 10, 2) := by decide +kernel
theorem dL_begins_352 : decode cL_begins 352 = .ok (.iconst 1, 1) := by decide +kernel
theorem dL_begins_353 : decode cL_begins 353 = .ok (.istore 11, 2) := by decide +kernel
theorem dL_begins_355 : decode cL_begins 355 = .ok (.iconst 0, 1) := by decide +kernel
theorem dL_begins_356 : decode cL_begins 356 = .ok (.istore 12, 2) := by decide +kernel
theorem dL_begins_358 : decode cL_begins 358 = .ok (.iload 12, 2) := by decide +kernel
theorem dL_begins_360 : decode cL_begins 360 = .ok (.aload_n 3, 1) := by decide +kernel
theorem dL_begins_361 : decode cL_begins 361 = .ok (.getfield 72, 3) := by decide +kernel
theorem dL_begins_364 : decode cL_begins 364 = .ok (.if_icmp .ge 69, 3) := by decide +kernel
theorem dL_begins_367 : decode cL_begins 367 = .ok (.iload 11, 2) := by decide +kernel
theorem dL_begins_369 : decode cL_begins 369 = .ok (.ifCond .eq 55, 3) := by decide +kernel
theorem dL_begins_372 : decode cL_begins 372 = .ok (.aload_n 3, 1) := by decide +kernel
theorem dL_begins_373 : decode cL_begins 373 = .ok (.getfield 75, 3) := by decide +kernel
theorem dL_begins_376 : decode cL_begins 376 = .ok (.iload 12, 2) := by decide +kernel
theorem dL_begins_378 : decode cL_begins 378 = .ok (.iaload, 1) := by decide +kernel
theorem dL_begins_379 : decode cL_begins 379 = .ok (.iload 8, 2) := by decide +kernel
theorem dL_begins_381 : decode cL_begins 381 = .ok (.if_icmp .ne 15, 3) := by decide +kernel
theorem dL_begins_384 : decode cL_begins 384 = .ok (.aload_n 3, 1) := by decide +kernel
theorem dL_begins_385 : decode cL_begins 385 = .ok (.getfield 78, 3) := by decide +kernel
theorem dL_begins_388 : decode cL_begins 388 = .ok (.iload 12, 2) := by decide +kernel
theorem dL_begins_390 : decode cL_begins 390 = .ok (.iaload, 1) := by decide +kernel
theorem dL_begins_391 : decode cL_begins 391 = .ok (.iload 9, 2) := by decide +kernel
theorem dL_begins_393 : decode cL_begins 393 = .ok (.if_icmp .eq 31, 3) := by decide +kernel
theorem dL_begins_396 : decode cL_begins 396 = .ok (.aload_n 3, 1) := by decide +kernel
theorem dL_begins_397 : decode cL_begins 397 = .ok (.getfield 75, 3) := by decide +kernel
theorem dL_begins_400 : decode cL_begins 400 = .ok (.iload 12, 2) := by decide +kernel
theorem dL_begins_402 : decode cL_begins 402 = .ok (.iaload, 1) := by decide +kernel
theorem dL_begins_403 : decode cL_begins 403 = .ok (.iload 9, 2) := by decide +kernel
theorem dL_begins_405 : decode cL_begins 405 = .ok (.if_icmp .ne 15, 3) := by decide +kernel
theorem dL_begins_408 : decode cL_begins 408 = .ok (.aload_n 3, 1) := by decide +kernel
theorem dL_begins_409 : decode cL_begins 409 = .ok (.getfield 78, 3) := by decide +kernel
theorem dL_begins_412 : decode cL_begins 412 = .ok (.iload 12, 2) := by decide +kernel
theorem dL_begins_414 : decode cL_begins 414 = .ok (.iaload, 1) := by decide +kernel
theorem dL_begins_415 : decode cL_begins 415 = .ok (.iload 8, 2) := by decide +kernel
theorem dL_begins_417 : decode cL_begins 417 = .ok (.if_icmp .eq 7, 3) := by decide +kernel
theorem dL_begins_420 : decode cL_begins 420 = .ok (.iconst 1, 1) := by decide +kernel
theorem dL_begins_421 : decode cL_begins 421 = .ok (.goto 4, 3) := by decide +kernel
theorem dL_begins_424 : decode cL_begins 424 = .ok (.iconst 0, 1) := by decide +kernel
theorem dL_begins_425 : decode cL_begins 425 = .ok (.istore 11, 2) := by decide +kernel
theorem dL_begins_427 : decode cL_begins 427 = .ok (.iinc 12 1, 3) := by decide +kernel
theorem dL_begins_430 : decode cL_begins 430 = .ok (.goto (-72), 3) := by decide +kernel
theorem dL_begins_433 : decode cL_begins 433 = .ok (.aload_n 0, 1) := by decide +kernel
theorem dL_begins_434 : decode cL_begins 434 = .ok (.iload 8, 2) := by decide +kernel
theorem dL_begins_436 : decode cL_begins 436 = .ok (.iload 9, 2) := by decide +kernel
theorem dL_begins_438 : decode cL_begins 438 = .ok (.iload 10, 2) := by decide +kernel
theorem dL_begins_440 : decode cL_begins 440 = .ok (.invokevirtual 81, 3) := by decide +kernel
theorem dL_begins_443 : decode cL_begins 443 = .ok (.iload 11, 2) := by decide +kernel
theorem dL_begins_445 : decode cL_begins 445 = .ok (.ifCond .eq 10, 3) := by decide +kernel
theorem dL_begins_448 : decode cL_begins 448 = .ok (.aload_n 3, 1) := by decide +kernel
theorem dL_begins_449 : decode cL_begins 449 = .ok (.getfield 72, 3) := by decide +kernel
theorem dL_begins_452 : decode cL_begins 452 = .ok (.goto 4, 3) := by decide +kernel
theorem dL_begins_455 : decode cL_begins 455 = .ok (.iconst (-1), 1) := by decide +kernel
theorem dL_begins_456 : decode cL_begins 456 = .ok (.if_icmp .eq 5, 3) := by decide +kernel
theorem dL_begins_459 : decode cL_begins 459 = .ok (.aconst_null, 1) := by decide +kernel
theorem dL_begins_460 : decode cL_begins 460 = .ok (.areturn, 1) := by decide +kernel
theorem dL_begins_461 : decode cL_begins 461 = .ok (.iload 11, 2) := by decide +kernel
theorem dL_begins_463 : decode cL_begins 463 = .ok (.ifCond .eq 61, 3) := by decide +kernel
theorem dL_begins_466 : decode cL_begins 466 = .ok (.aload_n 3, 1) := by decide +kernel
theorem dL_begins_467 : decode cL_begins 467 = .ok (.getfield 75, 3) := by decide +kernel
theorem dL_begins_470 : decode cL_begins 470 = .ok (.aload_n 3, 1) := by decide +kernel
theorem dL_begins_471 : decode cL_begins 471 = .ok (.getfield 72, 3) := by decide +kernel
theorem dL_begins_474 : decode cL_begins 474 = .ok (.iload 8, 2) := by decide +kernel
theorem dL_begins_476 : decode cL_begins 476 = .ok (.iastore, 1) := by decide +kernel
theorem dL_begins_477 : decode cL_begins 477 = .ok (.aload_n 3, 1) := by decide +kernel
theorem dL_begins_478 : decode cL_begins 478 = .ok (.getfield 78, 3) := by decide +kernel
theorem dL_begins_481 : decode cL_begins 481 = .ok (.aload_n 3, 1) := by decide +kernel
theorem dL_begins_482 : decode cL_begins 482 = .ok (.getfield 72, 3) := by decide +kernel
theorem dL_begins_485 : decode cL_begins 485 = .ok (.iload 9, 2) := by decide +kernel
theorem dL_begins_487 : decode cL_begins 487 = .ok (.iastore, 1) := by decide +kernel
theorem dL_begins_488 : decode cL_begins 488 = .ok (.aload_n 3, 1) := by decide +kernel
theorem dL_begins_489 : decode cL_begins 489 = .ok (.getfield 85, 3) := by decide +kernel
theorem dL_begins_492 : decode cL_begins 492 = .ok (.aload_n 3, 1) := by decide +kernel
theorem dL_begins_493 : decode cL_begins 493 = .ok (.getfield 72, 3) := by decide +kernel
theorem dL_begins_496 : decode cL_begins 496 = .ok (.iload 10, 2) := by decide +kernel
theorem dL_begins_498 : decode cL_begins 498 = .ok (.iastore, 1) := by decide +kernel
theorem dL_begins_499 : decode cL_begins 499 = .ok (.aload_n 3, 1) := by decide +kernel
theorem dL_begins_500 : decode cL_begins 500 = .ok (.dup, 1) := by decide +kernel
theorem dL_begins_501 : decode cL_begins 501 = .ok (.getfield 88, 3) := by decide +kernel
theorem dL_begins_504 : decode cL_begins 504 = .ok (.iconst 1, 1) := by decide +kernel
theorem dL_begins_505 : decode cL_begins 505 = .ok (.aload_n 3, 1) := by decide +kernel
theorem dL_begins_506 : decode cL_begins 506 = .ok (.getfield 72, 3) := by decide +kernel
theorem dL_begins_509 : decode cL_begins 509 = .ok (.ishl, 1) := by decide +kernel
theorem dL_begins_510 : decode cL_begins 510 = .ok (.ior, 1) := by decide +kernel
theorem dL_begins_511 : decode cL_begins 511 = .ok (.putfield 88, 3) := by decide +kernel
theorem dL_begins_514 : decode cL_begins 514 = .ok (.aload_n 3, 1) := by decide +kernel
theorem dL_begins_515 : decode cL_begins 515 = .ok (.dup, 1) := by decide +kernel
theorem dL_begins_516 : decode cL_begins 516 = .ok (.getfield 72, 3) := by decide +kernel
theorem dL_begins_519 : decode cL_begins 519 = .ok (.iconst 1, 1) := by decide +kernel
theorem dL_begins_520 : decode cL_begins 520 = .ok (.iadd, 1) := by decide +kernel
theorem dL_begins_521 : decode cL_begins 521 = .ok (.putfield 72, 3) := by decide +kernel
theorem dL_begins_524 : decode cL_begins 524 = .ok (.iinc 7 1, 3) := by decide +kernel
theorem dL_begins_527 : decode cL_begins 527 = .ok (.goto (-226), 3) := by decide +kernel
theorem dL_begins_530 : decode cL_begins 530 = .ok (.iconst 0, 1) := by decide +kernel
theorem dL_begins_531 : decode cL_begins 531 = .ok (.istore 7, 2) := by decide +kernel
theorem dL_begins_533 : decode cL_begins 533 = .ok (.iload 7, 2) := by decide +kernel
theorem dL_begins_535 : decode cL_begins 535 = .ok (.iload 4, 2) := by decide +kernel
theorem dL_begins_537 : decode cL_begins 537 = .ok (.if_icmp .ge 90, 3) := by decide +kernel
theorem dL_begins_540 : decode cL_begins 540 = .ok (.aload_n 3, 1) := by decide +kernel
theorem dL_begins_541 : decode cL_begins 541 = .ok (.getfield 91, 3) := by decide +kernel
theorem dL_begins_544 : decode cL_begins 544 = .ok (.iconst 2, 1) := by decide +kernel
theorem dL_begins_545 : decode cL_begins 545 = .ok (.iload 7, 2) := by decide +kernel
theorem dL_begins_547 : decode cL_begins 547 = .ok (.imul, 1) := by decide +kernel
theorem dL_begins_548 : decode cL_begins 548 = .ok (.aload_n 1, 1) := by decide +kernel
theorem dL_begins_549 : decode cL_begins 549 = .ok (.bipush 19, 2) := by decide +kernel
theorem dL_begins_551 : decode cL_begins 551 = .ok (.invokevirtual 41, 3) := by decide +kernel
theorem dL_begins_554 : decode cL_begins 554 = .ok (.bipush 9, 2) := by decide +kernel
theorem dL_begins_556 : decode cL_begins 556 = .ok (.isub, 1) := by decide +kernel
theorem dL_begins_557 : decode cL_begins 557 = .ok (.iastore, 1) := by decide +kernel
theorem dL_begins_558 : decode cL_begins 558 = .ok (.aload_n 3, 1) := by decide +kernel
theorem dL_begins_559 : decode cL_begins 559 = .ok (.getfield 91, 3) := by decide +kernel
theorem dL_begins_562 : decode cL_begins 562 = .ok (.iconst 2, 1) := by decide +kernel
theorem dL_begins_563 : decode cL_begins 563 = .ok (.iload 7, 2) := by decide +kernel
theorem dL_begins_565 : decode cL_begins 565 = .ok (.imul, 1) := by decide +kernel
theorem dL_begins_566 : decode cL_begins 566 = .ok (.iconst 1, 1) := by decide +kernel
theorem dL_begins_567 : decode cL_begins 567 = .ok (.iadd, 1) := by decide +kernel
theorem dL_begins_568 : decode cL_begins 568 = .ok (.aload_n 1, 1) := by decide +kernel
theorem dL_begins_569 : decode cL_begins 569 = .ok (.iconst 3, 1) := by decide +kernel
theorem dL_begins_570 : decode cL_begins 570 = .ok (.invokevirtual 41, 3) := by decide +kernel
theorem dL_begins_573 : decode cL_begins 573 = .ok (.ifCond .ne 7, 3) := by decide +kernel
theorem dL_begins_576 : decode cL_begins 576 = .ok (.iconst 0, 1) := by decide +kernel
theorem dL_begins_577 : decode cL_begins 577 = .ok (.goto 12, 3) := by decide +kernel
theorem dL_begins_580 : decode cL_begins 580 = .ok (.aload_n 1, 1) := by decide +kernel
theorem dL_begins_581 : decode cL_begins 581 = .ok (.bipush 19, 2) := by decide +kernel
theorem dL_begins_583 : decode cL_begins 583 = .ok (.invokevirtual 41, 3) := by decide +kernel
theorem dL_begins_586 : decode cL_begins 586 = .ok (.bipush 9, 2) := by decide +kernel
theorem dL_begins_588 : decode cL_begins 588 = .ok (.isub, 1) := by decide +kernel
theorem dL_begins_589 : decode cL_begins 589 = .ok (.iastore, 1) := by decide +kernel
theorem dL_begins_590 : decode cL_begins 590 = .ok (.aload_n 0, 1) := by decide +kernel
theorem dL_begins_591 : decode cL_begins 591 = .ok (.iload 7, 2) := by decide +kernel
theorem dL_begins_593 : decode cL_begins 593 = .ok (.aload_n 3, 1) := by decide +kernel
theorem dL_begins_594 : decode cL_begins 594 = .ok (.getfield 91, 3) := by decide +kernel
theorem dL_begins_597 : decode cL_begins 597 = .ok (.iconst 2, 1) := by decide +kernel
theorem dL_begins_598 : decode cL_begins 598 = .ok (.iload 7, 2) := by decide +kernel
theorem dL_begins_600 : decode cL_begins 600 = .ok (.imul, 1) := by decide +kernel
theorem dL_begins_601 : decode cL_begins 601 = .ok (.iaload, 1) := by decide +kernel
theorem dL_begins_602 : decode cL_begins 602 = .ok (.aload_n 3, 1) := by decide +kernel
theorem dL_begins_603 : decode cL_begins 603 = .ok (.getfield 91, 3) := by decide +kernel
theorem dL_begins_606 : decode cL_begins 606 = .ok (.iconst 2, 1) := by decide +kernel
theorem dL_begins_607 : decode cL_begins 607 = .ok (.iload 7, 2) := by decide +kernel
theorem dL_begins_609 : decode cL_begins 609 = .ok (.imul, 1) := by decide +kernel
theorem dL_begins_610 : decode cL_begins 610 = .ok (.iconst 1, 1) := by decide +kernel
theorem dL_begins_611 : decode cL_begins 611 = .ok (.iadd, 1) := by decide +kernel
theorem dL_begins_612 : decode cL_begins 612 = .ok (.iaload, 1) := by decide +kernel
theorem dL_begins_613 : decode cL_begins 613 = .ok (.invokevirtual 94, 3) := by decide +kernel
theorem dL_begins_616 : decode cL_begins 616 = .ok (.ifCond .ne 5, 3) := by decide +kernel
theorem dL_begins_619 : decode cL_begins 619 = .ok (.aconst_null, 1) := by decide +kernel
theorem dL_begins_620 : decode cL_begins 620 = .ok (.areturn, 1) := by decide +kernel
theorem dL_begins_621 : decode cL_begins 621 = .ok (.iinc 7 1, 3) := by decide +kernel
theorem dL_begins_624 : decode cL_begins 624 = .ok (.goto (-91), 3) := by decide +kernel
theorem dL_begins_627 : decode cL_begins 627 = .ok (.aload_n 0, 1) := by decide +kernel
theorem dL_begins_628 : decode cL_begins 628 = .ok (.iconst 0, 1) := by decide +kernel
theorem dL_begins_629 : decode cL_begins 629 = .ok (.invokevirtual 97, 3) := by decide +kernel
theorem dL_begins_632 : decode cL_begins 632 = .ok (.iload 4, 2) := by decide +kernel
theorem dL_begins_634 : decode cL_begins 634 = .ok (.if_icmp .ne 41, 3) := by decide +kernel
theorem dL_begins_637 : decode cL_begins 637 = .ok (.aload_n 0, 1) := by decide +kernel
theorem dL_begins_638 : decode cL_begins 638 = .ok (.iconst 1, 1) := by decide +kernel
theorem dL_begins_639 : decode cL_begins 639 = .ok (.invokevirtual 97, 3) := by decide +kernel
theorem dL_begins_642 : decode cL_begins 642 = .ok (.aload_n 3, 1) := by decide +kernel
theorem dL_begins_643 : decode cL_begins 643 = .ok (.getfield 72, 3) := by decide +kernel
theorem dL_begins_646 : decode cL_begins 646 = .ok (.if_icmp .ne 29, 3) := by decide +kernel
theorem dL_begins_649 : decode cL_begins 649 = .ok (.aload_n 0, 1) := by decide +kernel
theorem dL_begins_650 : decode cL_begins 650 = .ok (.iconst 2, 1) := by decide +kernel
theorem dL_begins_651 : decode cL_begins 651 = .ok (.invokevirtual 97, 3) := by decide +kernel
theorem dL_begins_654 : decode cL_begins 654 = .ok (.aload_n 3, 1) := by decide +kernel
theorem dL_begins_655 : decode cL_begins 655 = .ok (.getfield 88, 3) := by decide +kernel
theorem dL_begins_658 : decode cL_begins 658 = .ok (.if_icmp .ne 17, 3) := by decide +kernel
theorem dL_begins_661 : decode cL_begins 661 = .ok (.aload_n 0, 1) := by decide +kernel
theorem dL_begins_662 : decode cL_begins 662 = .ok (.iconst 3, 1) := by decide +kernel
theorem dL_begins_663 : decode cL_begins 663 = .ok (.invokevirtual 97, 3) := by decide +kernel
theorem dL_begins_666 : decode cL_begins 666 = .ok (.iload 5, 2) := by decide +kernel
theorem dL_begins_668 : decode cL_begins 668 = .ok (.if_icmp .ne 7, 3) := by decide +kernel
theorem dL_begins_671 : decode cL_begins 671 = .ok (.aload_n 3, 1) := by decide +kernel
theorem dL_begins_672 : decode cL_begins 672 = .ok (.goto 4, 3) := by decide +kernel
theorem dL_begins_675 : decode cL_begins 675 = .ok (.aconst_null, 1) := by decide +kernel
theorem dL_begins_676 : decode cL_begins 676 = .ok (.areturn, 1) := by decide +kernel
