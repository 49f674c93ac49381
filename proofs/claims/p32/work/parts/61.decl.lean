set_option maxRecDepth 20000 in
theorem ggL_plus_L_common : GoodIn wsL_plus wsL_common := goodIn_r _ [4, 5, 6, 7, 8] (by decide +kernel) (by decide +kernel)
set_option maxRecDepth 20000 in
theorem gL_plus_L_common : GoodIn wsL_plus (va_wsS RL 28 yL_common wsL_common) := goodIn_app (goodIn_of _ (by decide +kernel)) ggL_plus_L_common
set_option maxRecDepth 20000 in
theorem ggL_plus_L_told : GoodIn wsL_plus wsL_told := goodIn_r _ [11, 12, 1, 2, 3, 4, 5, 6, 7, 8] (by decide +kernel) (by decide +kernel)
set_option maxRecDepth 20000 in
theorem gL_plus_L_told : GoodIn wsL_plus (va_wsS RL 34 yL_told wsL_told) := goodIn_app (goodIn_of _ (by decide +kernel)) ggL_plus_L_told
theorem dL_plus_0 : decode cL_plus 0 = .ok (.aload_n 0, 1) := by decide +kernel
theorem dL_plus_1 : decode cL_plus 1 = .ok (.iconst 1, 1) := by decide +kernel
theorem dL_plus_2 : decode cL_plus 2 = .ok (.laload, 1) := by decide +kernel
theorem dL_plus_3 : decode cL_plus 3 = .ok (.aload_n 1, 1) := by decide +kernel
theorem dL_plus_4 : decode cL_plus 4 = .ok (.iconst 1, 1) := by decide +kernel
theorem dL_plus_5 : decode cL_plus 5 = .ok (.laload, 1) := by decide +kernel
theorem dL_plus_6 : decode cL_plus 6 = .ok (.invokestatic 28, 3) := by decide +kernel
theorem dL_plus_9 : decode cL_plus 9 = .ok (.lstore_n 2, 1) := by decide +kernel
theorem dL_plus_10 : decode cL_plus 10 = .ok (.aload_n 0, 1) := by decide +kernel
theorem dL_plus_11 : decode cL_plus 11 = .ok (.iconst 0, 1) := by decide +kernel
theorem dL_plus_12 : decode cL_plus 12 = .ok (.laload, 1) := by decide +kernel
theorem dL_plus_13 : decode cL_plus 13 = .ok (.aload_n 1, 1) := by decide +kernel
theorem dL_plus_14 : decode cL_plus 14 = .ok (.iconst 1, 1) := by decide +kernel
theorem dL_plus_15 : decode cL_plus 15 = .ok (.laload, 1) := by decide +kernel
theorem dL_plus_16 : decode cL_plus 16 = .ok (.lload_n 2, 1) := by decide +kernel
theorem dL_plus_17 : decode cL_plus 17 = .ok (.ldiv, 1) := by decide +kernel
theorem dL_plus_18 : decode cL_plus 18 = .ok (.lmul, 1) := by decide +kernel
theorem dL_plus_19 : decode cL_plus 19 = .ok (.aload_n 1, 1) := by decide +kernel
theorem dL_plus_20 : decode cL_plus 20 = .ok (.iconst 0, 1) := by decide +kernel
theorem dL_plus_21 : decode cL_plus 21 = .ok (.laload, 1) := by decide +kernel
theorem dL_plus_22 : decode cL_plus 22 = .ok (.aload_n 0, 1) := by decide +kernel
theorem dL_plus_23 : decode cL_plus 23 = .ok (.iconst 1, 1) := by decide +kernel
theorem dL_plus_24 : decode cL_plus 24 = .ok (.laload, 1) := by decide +kernel
theorem dL_plus_25 : decode cL_plus 25 = .ok (.lload_n 2, 1) := by decide +kernel
theorem dL_plus_26 : decode cL_plus 26 = .ok (.ldiv, 1) := by decide +kernel
theorem dL_plus_27 : decode cL_plus 27 = .ok (.lmul, 1) := by decide +kernel
theorem dL_plus_28 : decode cL_plus 28 = .ok (.ladd, 1) := by decide +kernel
theorem dL_plus_29 : decode cL_plus 29 = .ok (.aload_n 0, 1) := by decide +kernel
theorem dL_plus_30 : decode cL_plus 30 = .ok (.iconst 1, 1) := by decide +kernel
theorem dL_plus_31 : decode cL_plus 31 = .ok (.laload, 1) := by decide +kernel
theorem dL_plus_32 : decode cL_plus 32 = .ok (.lload_n 2, 1) := by decide +kernel
theorem dL_plus_33 : decode cL_plus 33 = .ok (.ldiv, 1) := by decide +kernel
theorem dL_plus_34 : decode cL_plus 34 = .ok (.aload_n 1, 1) := by decide +kernel
theorem dL_plus_35 : decode cL_plus 35 = .ok (.iconst 1, 1) := by decide +kernel
theorem dL_plus_36 : decode cL_plus 36 = .ok (.laload, 1) := by decide +kernel
theorem dL_plus_37 : decode cL_plus 37 = .ok (.lmul, 1) := by decide +kernel
theorem dL_plus_38 : decode cL_plus 38 = .ok (.invokestatic 34, 3) := by decide +kernel
theorem dL_plus_41 : decode cL_plus 41 = .ok (.areturn, 1) := by decide +kernel
set_option maxRecDepth 20000 in
theorem ggL_times_L_common : GoodIn wsL_times wsL_common := goodIn_r _ [4, 5, 6, 7, 8] (by decide +kernel) (by decide +kernel)
set_option maxRecDepth 20000 in
theorem gL_times_L_common : GoodIn wsL_times (va_wsS RL 28 yL_common wsL_common) := goodIn_app (goodIn_of _ (by decide +kernel)) ggL_times_L_common
set_option maxRecDepth 20000 in
theorem ggL_times_L_told : GoodIn wsL_times wsL_told := goodIn_r _ [11, 12, 1, 2, 3, 4, 5, 6, 7, 8] (by decide +kernel) (by decide +kernel)
set_option maxRecDepth 20000 in
theorem gL_times_L_told : GoodIn wsL_times (va_wsS RL 34 yL_told wsL_told) := goodIn_app (goodIn_of _ (by decide +kernel)) ggL_times_L_told
theorem dL_times_0 : decode cL_times 0 = .ok (.aload_n 0, 1) := by decide +kernel
theorem dL_times_1 : decode cL_times 1 = .ok (.iconst 0, 1) := by decide +kernel
theorem dL_times_2 : decode cL_times 2 = .ok (.laload, 1) := by decide +kernel
theorem dL_times_3 : decode cL_times 3 = .ok (.aload_n 1, 1) := by decide +kernel
theorem dL_times_4 : decode cL_times 4 = .ok (.iconst 1, 1) := by decide +kernel
theorem dL_times_5 : decode cL_times 5 = .ok (.laload, 1) := by decide +kernel
theorem dL_times_6 : decode cL_times 6 = .ok (.invokestatic 28, 3) := by decide +kernel
theorem dL_times_9 : decode cL_times 9 = .ok (.lstore_n 2, 1) := by decide +kernel
theorem dL_times_10 : decode cL_times 10 = .ok (.aload_n 1, 1) := by decide +kernel
theorem dL_times_11 : decode cL_times 11 = .ok (.iconst 0, 1) := by decide +kernel
theorem dL_times_12 : decode cL_times 12 = .ok (.laload, 1) := by decide +kernel
theorem dL_times_13 : decode cL_times 13 = .ok (.aload_n 0, 1) := by decide +kernel
theorem dL_times_14 : decode cL_times 14 = .ok (.iconst 1, 1) := by decide +kernel
theorem dL_times_15 : decode cL_times 15 = .ok (.laload, 1) := by decide +kernel
theorem dL_times_16 : decode cL_times 16 = .ok (.invokestatic 28, 3) := by decide +kernel
theorem dL_times_19 : decode cL_times 19 = .ok (.lstore 4, 2) := by decide +kernel
theorem dL_times_21 : decode cL_times 21 = .ok (.aload_n 0, 1) := by decide +kernel
theorem dL_times_22 : decode cL_times 22 = .ok (.iconst 0, 1) := by decide +kernel
theorem dL_times_23 : decode cL_times 23 = .ok (.laload, 1) := by decide +kernel
theorem dL_times_24 : decode cL_times 24 = .ok (.lload_n 2, 1) := by decide +kernel
theorem dL_times_25 : decode cL_times 25 = .ok (.ldiv, 1) := by decide +kernel
theorem dL_times_26 : decode cL_times 26 = .ok (.aload_n 1, 1) := by decide +kernel
theorem dL_times_27 : decode cL_times 27 = .ok (.iconst 0, 1) := by decide +kernel
theorem dL_times_28 : decode cL_times 28 = .ok (.laload, 1) := by decide +kernel
theorem dL_times_29 : decode cL_times 29 = .ok (.lload 4, 2) := by decide +kernel
theorem dL_times_31 : decode cL_times 31 = .ok (.ldiv, 1) := by decide +kernel
theorem dL_times_32 : decode cL_times 32 = .ok (.lmul, 1) := by decide +kernel
theorem dL_times_33 : decode cL_times 33 = .ok (.aload_n 0, 1) := by decide +kernel
theorem dL_times_34 : decode cL_times 34 = .ok (.iconst 1, 1) := by decide +kernel
theorem dL_times_35 : decode cL_times 35 = .ok (.laload, 1) := by decide +kernel
theorem dL_times_36 : decode cL_times 36 = .ok (.lload 4, 2) := by decide +kernel
theorem dL_times_38 : decode cL_times 38 = .ok (.ldiv, 1) := by decide +kernel
theorem dL_times_39 : decode cL_times 39 = .ok (.aload_n 1, 1) := by decide +kernel
theorem dL_times_40 : decode cL_times 40 = .ok (.iconst 1, 1) := by decide +kernel
theorem dL_times_41 : decode cL_times 41 = .ok (.laload, 1) := by decide +kernel
theorem dL_times_42 : decode cL_times 42 = .ok (.lload_n 2, 1) := by decide +kernel
theorem dL_times_43 : decode cL_times 43 = .ok (.ldiv, 1) := by decide +kernel
theorem dL_times_44 : decode cL_times 44 = .ok (.lmul, 1) := by decide +kernel
theorem dL_times_45 : decode cL_times 45 = .ok (.invokestatic 34, 3) := by decide +kernel
theorem dL_times_48 : decode cL_times 48 = .ok (.areturn, 1) := by decide +kernel
theorem dL_whole_0 : decode cL_whole 0 = .ok (.iconst 2, 1) := by decide +kernel
theorem dL_whole_1 : decode cL_whole 1 = .ok (.newarray .long, 2) := by decide +kernel
theorem dL_whole_3 : decode cL_whole 3 = .ok (.dup, 1) := by decide +kernel
theorem dL_whole_4 : decode cL_whole 4 = .ok (.iconst 0, 1) := by decide +kernel
theorem dL_whole_5 : decode cL_whole 5 = .ok (.lload_n 0, 1) := by decide +kernel
theorem dL_whole_6 : decode cL_whole 6 = .ok (.lastore, 1) := by decide +kernel
theorem dL_whole_7 : decode cL_whole 7 = .ok (.dup, 1) := by decide +kernel
theorem dL_whole_8 : decode cL_whole 8 = .ok (.iconst 1, 1) := by decide +kernel
theorem dL_whole_9 : decode cL_whole 9 = .ok (.lconst 1, 1) := by decide +kernel
theorem dL_whole_10 : decode cL_whole 10 = .ok (.lastore, 1) := by decide +kernel
theorem dL_whole_11 : decode cL_whole 11 = .ok (.areturn, 1) := by decide +kernel
set_option maxRecDepth 20000 in
theorem ggL_isLeast_L_common : GoodIn wsL_isLeast wsL_common := goodIn_r _ [4, 5, 6, 7, 8] (by decide +kernel) (by decide +kernel)
set_option maxRecDepth 20000 in
theorem gL_isLeast_L_common : GoodIn wsL_isLeast (va_wsS RL 28 yL_common wsL_common) := goodIn_app (goodIn_of _ (by decide +kernel)) ggL_isLeast_L_common
theorem dL_isLeast_0 : decode cL_isLeast 0 = .ok (.aload_n 0, 1) := by decide +kernel
theorem dL_isLeast_1 : decode cL_isLeast 1 = .ok (.ifnull 29, 3) := by decide +kernel
theorem dL_isLeast_4 : decode cL_isLeast 4 = .ok (.aload_n 0, 1) := by decide +kernel
theorem dL_isLeast_5 : decode cL_isLeast 5 = .ok (.iconst 1, 1) := by decide +kernel
theorem dL_isLeast_6 : decode cL_isLeast 6 = .ok (.laload, 1) := by decide +kernel
theorem dL_isLeast_7 : decode cL_isLeast 7 = .ok (.lconst 0, 1) := by decide +kernel
theorem dL_isLeast_8 : decode cL_isLeast 8 = .ok (.lcmp, 1) := by decide +kernel
theorem dL_isLeast_9 : decode cL_isLeast 9 = .ok (.ifCond .le 21, 3) := by decide +kernel
theorem dL_isLeast_12 : decode cL_isLeast 12 = .ok (.aload_n 0, 1) := by decide +kernel
theorem dL_isLeast_13 : decode cL_isLeast 13 = .ok (.iconst 0, 1) := by decide +kernel
theorem dL_isLeast_14 : decode cL_isLeast 14 = .ok (.laload, 1) := by decide +kernel
theorem dL_isLeast_15 : decode cL_isLeast 15 = .ok (.aload_n 0, 1) := by decide +kernel
theorem dL_isLeast_16 : decode cL_isLeast 16 = .ok (.iconst 1, 1) := by decide +kernel
theorem dL_isLeast_17 : decode cL_isLeast 17 = .ok (.laload, 1) := by decide +kernel
theorem dL_isLeast_18 : decode cL_isLeast 18 = .ok (.invokestatic 28, 3) := by decide +kernel
theorem dL_isLeast_21 : decode cL_isLeast 21 = .ok (.lconst 1, 1) := by decide +kernel
theorem dL_isLeast_22 : decode cL_isLeast 22 = .ok (.lcmp, 1) := by decide +kernel
theorem dL_isLeast_23 : decode cL_isLeast 23 = .ok (.ifCond .ne 7, 3) := by decide +kernel
theorem dL_isLeast_26 : decode cL_isLeast 26 = .ok (.iconst 1, 1) := by decide +kernel
theorem dL_isLeast_27 : decode cL_isLeast 27 = .ok (.goto 4, 3) := by decide +kernel
theorem dL_isLeast_30 : decode cL_isLeast 30 = .ok (.iconst 0, 1) := by decide +kernel
theorem dL_isLeast_31 : decode cL_isLeast 31 = .ok (.ireturn, 1) := by decide +kernel
theorem dL_brings_0 : decode cL_brings 0 = .ok (.aload_n 0, 1) := by decide +kernel
theorem dL_brings_1 : decode cL_brings 1 = .ok (.getfield 75, 3) := by decide +kernel
theorem dL_brings_4 : decode cL_brings 4 = .ok (.iload_n 1, 1) := by decide +kernel
theorem dL_brings_5 : decode cL_brings 5 = .ok (.iaload, 1) := by decide +kernel
theorem dL_brings_6 : decode cL_brings 6 = .ok (.iload_n 2, 1) := by decide +kernel
theorem dL_brings_7 : decode cL_brings 7 = .ok (.if_icmp .eq 15, 3) := by decide +kernel
theorem dL_brings_10 : decode cL_brings 10 = .ok (.aload_n 0, 1) := by decide +kernel
theorem dL_brings_11 : decode cL_brings 11 = .ok (.getfield 78, 3) := by decide +kernel
theorem dL_brings_14 : decode cL_brings 14 = .ok (.iload_n 1, 1) := by decide +kernel
theorem dL_brings_15 : decode cL_brings 15 = .ok (.iaload, 1) := by decide +kernel
theorem dL_brings_16 : decode cL_brings 16 = .ok (.iload_n 2, 1) := by decide +kernel
theorem dL_brings_17 : decode cL_brings 17 = .ok (.if_icmp .eq 5, 3) := by decide +kernel
theorem dL_brings_20 : decode cL_brings 20 = .ok (.iconst 0, 1) := by decide +kernel
theorem dL_brings_21 : decode cL_brings 21 = .ok (.ireturn, 1) := by decide +kernel
theorem dL_brings_22 : decode cL_brings 22 = .ok (.iload_n 3, 1) := by decide +kernel
theorem dL_brings_23 : decode cL_brings 23 = .ok (.ifCond .ne 29, 3) := by decide +kernel
theorem dL_brings_26 : decode cL_brings 26 = .ok (.aload_n 0, 1) := by decide +kernel
theorem dL_brings_27 : decode cL_brings 27 = .ok (.getfield 51, 3) := by decide +kernel
theorem dL_brings_30 : decode cL_brings 30 = .ok (.aload_n 0, 1) := by decide +kernel
theorem dL_brings_31 : decode cL_brings 31 = .ok (.getfield 78, 3) := by decide +kernel
theorem dL_brings_34 : decode cL_brings 34 = .ok (.iload_n 1, 1) := by decide +kernel
theorem dL_brings_35 : decode cL_brings 35 = .ok (.iaload, 1) := by decide +kernel
theorem dL_brings_36 : decode cL_brings 36 = .ok (.iaload, 1) := by decide +kernel
theorem dL_brings_37 : decode cL_brings 37 = .ok (.aload_n 0, 1) := by decide +kernel
theorem dL_brings_38 : decode cL_brings 38 = .ok (.getfield 51, 3) := by decide +kernel
theorem dL_brings_41 : decode cL_brings 41 = .ok (.aload_n 0, 1) := by decide +kernel
theorem dL_brings_42 : decode cL_brings 42 = .ok (.getfield 75, 3) := by decide +kernel
theorem dL_brings_45 : decode cL_brings 45 = .ok (.iload_n 1, 1) := by decide +kernel
theorem dL_brings_46 : decode cL_brings 46 = .ok (.iaload, 1) := by decide +kernel
theorem dL_brings_47 : decode cL_brings 47 = .ok (.iaload, 1) := by decide +kernel
theorem dL_brings_48 : decode cL_brings 48 = .ok (.isub, 1) := by decide +kernel
theorem dL_brings_49 : decode cL_brings 49 = .ok (.goto 26, 3) := by decide +kernel
theorem dL_brings_52 : decode cL_brings 52 = .ok (.aload_n 0, 1) := by decide +kernel
theorem dL_brings_53 : decode cL_brings 53 = .ok (.getfield 55, 3) := by decide +kernel
theorem dL_brings_56 : decode cL_brings 56 = .ok (.aload_n 0, 1) := by decide +kernel
theorem dL_brings_57 : decode cL_brings 57 = .ok (.getfield 78, 3) := by decide +kernel
theorem dL_brings_60 : decode cL_brings 60 = .ok (.iload_n 1, 1) := by decide +kernel
theorem dL_brings_61 : decode cL_brings 61 = .ok (.iaload, 1) := by decide +kernel
theorem dL_brings_62 : decode cL_brings 62 = .ok (.iaload, 1) := by decide +kernel
theorem dL_brings_63 : decode cL_brings 63 = .ok (.aload_n 0, 1) := by decide +kernel
theorem dL_brings_64 : decode cL_brings 64 = .ok (.getfield 55, 3) := by decide +kernel
theorem dL_brings_67 : decode cL_brings 67 = .ok (.aload_n 0, 1) := by decide +kernel
theorem dL_brings_68 : decode cL_brings 68 = .ok (.getfield 75, 3) := by decide +kernel
theorem dL_brings_71 : decode cL_brings 71 = .ok (.iload_n 1, 1) := by decide +kernel
theorem dL_brings_72 : decode cL_brings 72 = .ok (.iaload, 1) := by decide +kernel
theorem dL_brings_73 : decode cL_brings 73 = .ok (.iaload, 1) := by decide +kernel
theorem dL_brings_74 : decode cL_brings 74 = .ok (.isub, 1) := by decide +kernel
theorem dL_brings_75 : decode cL_brings 75 = .ok (.istore 4, 2) := by decide +kernel
theorem dL_brings_77 : decode cL_brings 77 = .ok (.aload_n 0, 1) := by decide +kernel
theorem dL_brings_78 : decode cL_brings 78 = .ok (.getfield 75, 3) := by decide +kernel
theorem dL_brings_81 : decode cL_brings 81 = .ok (.iload_n 1, 1) := by decide +kernel
theorem dL_brings_82 : decode cL_brings 82 = .ok (.iaload, 1) := by decide +kernel
theorem dL_brings_83 : decode cL_brings 83 = .ok (.iload_n 2, 1) := by decide +kernel
theorem dL_brings_84 : decode cL_brings 84 = .ok (.if_icmp .ne 8, 3) := by decide +kernel
theorem dL_brings_87 : decode cL_brings 87 = .ok (.iload 4, 2) := by decide +kernel
theorem dL_brings_89 : decode cL_brings 89 = .ok (.goto 6, 3) := by decide +kernel
theorem dL_brings_92 : decode cL_brings 92 = .ok (.iload 4, 2) := by decide +kernel
theorem dL_brings_94 : decode cL_brings 94 = .ok (.ineg, 1) := by decide +kernel
theorem dL_brings_95 : decode cL_brings 95 = .ok (.ireturn, 1) := by decide +kernel
theorem dL_isOn_0 : decode cL_isOn 0 = .ok (.iload_n 0, 1) := by decide +kernel
theorem dL_isOn_1 : decode cL_isOn 1 = .ok (.iload_n 1, 1) := by decide +kernel
theorem dL_isOn_2 : decode cL_isOn 2 = .ok (.ishr, 1) := by decide +kernel
theorem dL_isOn_3 : decode cL_isOn 3 = .ok (.iconst 1, 1) := by decide +kernel
theorem dL_isOn_4 : decode cL_isOn 4 = .ok (.iand, 1) := by decide +kernel
theorem dL_isOn_5 : decode cL_isOn 5 = .ok (.iconst 1, 1) := by decide +kernel
theorem dL_isOn_6 : decode cL_isOn 6 = .ok (.if_icmp .ne 7, 3) := by decide +kernel
theorem dL_isOn_9 : decode cL_isOn 9 = .ok (.iconst 1, 1) := by decide +kernel
theorem dL_isOn_10 : decode cL_isOn 10 = .ok (.goto 4, 3) := by decide +kernel
theorem dL_isOn_13 : decode cL_isOn 13 = .ok (.iconst 0, 1) := by decide +kernel
theorem dL_isOn_14 : decode cL_isOn 14 = .ok (.ireturn, 1) := by decide +kernel
theorem dL_isFirm_0 : decode cL_isFirm 0 = .ok (.iload_n 0, 1) := by decide +kernel
theorem dL_isFirm_1 : decode cL_isFirm 1 = .ok (.ifCond .le 12, 3) := by decide +kernel
theorem dL_isFirm_4 : decode cL_isFirm 4 = .ok (.iload_n 0, 1) := by decide +kernel
theorem dL_isFirm_5 : decode cL_isFirm 5 = .ok (.iconst 4, 1) := by decide +kernel
theorem dL_isFirm_6 : decode cL_isFirm 6 = .ok (.if_icmp .ge 7, 3) := by decide +kernel
theorem dL_isFirm_9 : decode cL_isFirm 9 = .ok (.iconst 1, 1) := by decide +kernel
theorem dL_isFirm_10 : decode cL_isFirm 10 = .ok (.goto 4, 3) := by decide +kernel
theorem dL_isFirm_13 : decode cL_isFirm 13 = .ok (.iconst 0, 1) := by decide +kernel
theorem dL_isFirm_14 : decode cL_isFirm 14 = .ok (.ireturn, 1) := by decide +kernel
set_option maxRecDepth 20000 in
theorem ggL_isBalance_L_whole : GoodIn wsL_isBalance wsL_whole := goodIn_r _ [4, 5] (by decide +kernel) (by decide +kernel)
set_option maxRecDepth 20000 in
theorem gL_isBalance_L_whole : GoodIn wsL_isBalance (va_wsS RL 100 yL_whole wsL_whole) := goodIn_app (goodIn_of _ (by decide +kernel)) ggL_isBalance_L_whole
set_option maxRecDepth 20000 in
theorem ggL_isBalance_L_isOn : GoodIn wsL_isBalance wsL_isOn := goodIn_r _ [8] (by decide +kernel) (by decide +kernel)
set_option maxRecDepth 20000 in
theorem gL_isBalance_L_isOn : GoodIn wsL_isBalance (va_wsS RL 104 yL_isOn wsL_isOn) := goodIn_app (goodIn_of _ (by decide +kernel)) ggL_isBalance_L_isOn
set_option maxRecDepth 20000 in
theorem ggL_isBalance_L_pull : GoodIn wsL_isBalance wsL_pull := goodIn_ca (goodIn_r _ [11, 12, 5, 13, 14, 15, 16, 17, 18, 19, 20, 21, 22, 23, 24, 25, 26, 27, 28, 29, 30, 31, 32, 33, 34, 35, 36, 37, 38, 39, 40, 41, 42, 43, 44, 45, 46, 47, 48, 49, 50, 51, 52, 53, 54, 55, 56, 57, 58, 59, 60, 61, 62, 63, 64, 65, 66, 67, 68, 69, 70, 71, 72, 73, 74, 75, 76, 77, 78, 79, 80, 81, 82, 83, 84, 85, 86, 87, 88, 89, 90, 91, 92, 93, 94, 95, 96, 97, 98, 99, 100, 101, 102, 103, 104, 105, 106, 107, 108, 109, 110, 111, 112, 113, 114, 115, 116, 117, 118, 119, 120, 121, 122, 123, 124, 125, 126, 127, 128, 129, 130, 131, 132, 133, 134, 135, 136, 137, 138, 139, 140, 141, 142, 143, 144, 145, 146, 147, 148, 149, 150, 151, 152, 153, 154, 155, 156, 157, 158, 159, 160, 161, 162, 163, 164, 165, 166, 167, 168, 169, 170, 171, 172, 173, 174, 175, 176, 177, 178, 179, 180, 181, 182, 183, 184, 185, 186, 187, 188, 189, 190, 191, 239, 240, 241, 242, 243, 244, 245, 246, 247, 248, 249, 250, 251, 252, 253, 254, 255, 256, 257, 258, 259, 260, 261, 262, 263, 264, 265, 266, 267, 268, 269, 270, 271, 272, 273] (by decide +kernel) (by decide +kernel)) (goodIn_sub (fun _ h => List.mem_cons_of_mem _ (List.mem_append_right _ h)) (by decide +kernel))
set_option maxRecDepth 20000 in
theorem gL_isBalance_L_pull : GoodIn wsL_isBalance (va_wsS RL 108 yL_pull wsL_pull) := goodIn_app (goodIn_of _ (by decide +kernel)) ggL_isBalance_L_pull
set_option maxRecDepth 20000 in
theorem ggL_isBalance_L_brings : GoodIn wsL_isBalance wsL_brings := goodIn_r _ [194, 229, 230, 231, 232, 233, 234, 235, 236, 237, 238] (by decide +kernel) (by decide +kernel)
set_option maxRecDepth 20000 in
theorem gL_isBalance_L_brings : GoodIn wsL_isBalance (va_wsS RL 111 yL_brings wsL_brings) := goodIn_app (goodIn_of _ (by decide +kernel)) ggL_isBalance_L_brings
set_option maxRecDepth 20000 in
theorem ggL_isBalance_L_times : GoodIn wsL_isBalance wsL_times := goodIn_r _ [197, 198, 199, 3, 200, 201, 185, 96, 186, 202, 203, 204, 5] (by decide +kernel) (by decide +kernel)
set_option maxRecDepth 20000 in
theorem gL_isBalance_L_times : GoodIn wsL_isBalance (va_wsS RL 115 yL_times wsL_times) := goodIn_app (goodIn_of _ (by decide +kernel)) ggL_isBalance_L_times
set_option maxRecDepth 20000 in
theorem ggL_isBalance_L_plus : GoodIn wsL_isBalance wsL_plus := goodIn_r _ [207, 198, 199, 3, 200, 201, 185, 96, 186, 202, 203, 204, 5] (by decide +kernel) (by decide +kernel)
set_option maxRecDepth 20000 in
theorem gL_isBalance_L_plus : GoodIn wsL_isBalance (va_wsS RL 119 yL_plus wsL_plus) := goodIn_app (goodIn_of _ (by decide +kernel)) ggL_isBalance_L_plus
set_option maxRecDepth 20000 in
theorem ggL_isBalance_L_force : GoodIn wsL_isBalance wsL_force := goodIn_ca (goodIn_r _ [210, 12, 5, 211, 212, 213, 16, 214, 18, 215, 19, 20, 39, 159, 216, 217, 218, 219, 24, 220, 221, 222, 223, 224, 150, 151, 152, 153, 154, 34, 35, 36, 37, 38, 40, 41, 42, 43, 44, 45, 46, 47, 48, 49, 50, 51, 52, 53, 54, 55, 56, 57, 58, 59, 60, 61, 62, 63, 64, 65, 66, 67, 68, 69, 70, 71, 72, 73, 74, 32, 33, 75, 76, 77, 78, 79, 80, 81, 82, 83, 84, 85, 86, 87, 88, 89, 90, 91, 92, 93, 94, 95, 96, 97, 98, 99, 100, 101, 102, 103, 104, 105, 106, 107, 108, 109, 110, 111, 112, 113, 114, 115, 116, 117, 118, 119, 120, 121, 122, 123, 124, 125, 126, 127, 128, 129, 130, 131, 132, 133, 134, 135, 136, 137, 138, 139, 140, 141, 142, 143, 144, 145, 146, 147, 148, 149, 21, 22, 23, 25, 26, 27, 28, 29, 30, 31, 225, 160, 161, 162, 163, 164, 165, 166, 167, 168, 169, 170, 171, 172, 173, 174, 175, 176, 177, 178, 179, 180, 181, 182, 183, 184, 185, 186, 187, 188, 189, 190, 191, 239, 240, 241, 242, 243, 244, 245, 246, 247, 248, 249, 250, 251, 252, 253, 254, 255, 265, 266, 267, 268, 269, 270, 271, 256, 257, 258, 259, 260, 261, 262, 263, 264, 272, 273] (by decide +kernel) (by decide +kernel)) (goodIn_sub (fun _ h => List.mem_cons_of_mem _ (List.mem_append_right _ h)) (by decide +kernel))
set_option maxRecDepth 20000 in
theorem gL_isBalance_L_force : GoodIn wsL_isBalance (va_wsS RL 122 yL_force wsL_force) := goodIn_app (goodIn_of _ (by decide +kernel)) ggL_isBalance_L_force
set_option maxRecDepth 20000 in
theorem ggL_isBalance_L_isLeast : GoodIn wsL_isBalance wsL_isLeast := goodIn_r _ [228, 198, 199, 3, 200, 201, 185, 96, 186] (by decide +kernel) (by decide +kernel)
set_option maxRecDepth 20000 in
theorem gL_isBalance_L_isLeast : GoodIn wsL_isBalance (va_wsS RL 125 yL_isLeast wsL_isLeast) := goodIn_app (goodIn_of _ (by decide +kernel)) ggL_isBalance_L_isLeast
theorem dL_isBalance_0 : decode cL_isBalance 0 = .ok (.iconst 0, 1) := by decide +kernel
theorem dL_isBalance_1 : decode cL_isBalance 1 = .ok (.istore_n 2, 1) := by decide +kernel
theorem dL_isBalance_2 : decode cL_isBalance 2 = .ok (.iload_n 2, 1) := by decide +kernel
theorem dL_isBalance_3 : decode cL_isBalance 3 = .ok (.aload_n 1, 1) := by decide +kernel
theorem dL_isBalance_4 : decode cL_isBalance 4 = .ok (.getfield 47, 3) := by decide +kernel
theorem dL_isBalance_7 : decode cL_isBalance 7 = .ok (.if_icmp .ge 162, 3) := by decide +kernel
theorem dL_isBalance_10 : decode cL_isBalance 10 = .ok (.iconst 0, 1) := by decide +kernel
theorem dL_isBalance_11 : decode cL_isBalance 11 = .ok (.istore_n 3, 1) := by decide +kernel
theorem dL_isBalance_12 : decode cL_isBalance 12 = .ok (.iload_n 3, 1) := by decide +kernel
theorem dL_isBalance_13 : decode cL_isBalance 13 = .ok (.iconst 2, 1) := by decide +kernel
theorem dL_isBalance_14 : decode cL_isBalance 14 = .ok (.if_icmp .ge 149, 3) := by decide +kernel
theorem dL_isBalance_17 : decode cL_isBalance 17 = .ok (.aload_n 1, 1) := by decide +kernel
theorem dL_isBalance_18 : decode cL_isBalance 18 = .ok (.getfield 91, 3) := by decide +kernel
theorem dL_isBalance_21 : decode cL_isBalance 21 = .ok (.iconst 2, 1) := by decide +kernel
theorem dL_isBalance_22 : decode cL_isBalance 22 = .ok (.iload_n 2, 1) := by decide +kernel
theorem dL_isBalance_23 : decode cL_isBalance 23 = .ok (.imul, 1) := by decide +kernel
theorem dL_isBalance_24 : decode cL_isBalance 24 = .ok (.iload_n 3, 1) := by decide +kernel
theorem dL_isBalance_25 : decode cL_isBalance 25 = .ok (.iadd, 1) := by decide +kernel
theorem dL_isBalance_26 : decode cL_isBalance 26 = .ok (.iaload, 1) := by decide +kernel
theorem dL_isBalance_27 : decode cL_isBalance 27 = .ok (.i2l, 1) := by decide +kernel
theorem dL_isBalance_28 : decode cL_isBalance 28 = .ok (.invokestatic 100, 3) := by decide +kernel
theorem dL_isBalance_31 : decode cL_isBalance 31 = .ok (.astore 4, 2) := by decide +kernel
theorem dL_isBalance_33 : decode cL_isBalance 33 = .ok (.iconst 0, 1) := by decide +kernel
theorem dL_isBalance_34 : decode cL_isBalance 34 = .ok (.istore 5, 2) := by decide +kernel
theorem dL_isBalance_36 : decode cL_isBalance 36 = .ok (.iload 5, 2) := by decide +kernel
theorem dL_isBalance_38 : decode cL_isBalance 38 = .ok (.aload_n 1, 1) := by decide +kernel
theorem dL_isBalance_39 : decode cL_isBalance 39 = .ok (.getfield 72, 3) := by decide +kernel
theorem dL_isBalance_42 : decode cL_isBalance 42 = .ok (.if_icmp .ge 49, 3) := by decide +kernel
theorem dL_isBalance_45 : decode cL_isBalance 45 = .ok (.aload_n 1, 1) := by decide +kernel
theorem dL_isBalance_46 : decode cL_isBalance 46 = .ok (.getfield 88, 3) := by decide +kernel
theorem dL_isBalance_49 : decode cL_isBalance 49 = .ok (.iload 5, 2) := by decide +kernel
theorem dL_isBalance_51 : decode cL_isBalance 51 = .ok (.invokestatic 104, 3) := by decide +kernel
theorem dL_isBalance_54 : decode cL_isBalance 54 = .ok (.ifCond .eq 31, 3) := by decide +kernel
theorem dL_isBalance_57 : decode cL_isBalance 57 = .ok (.aload 4, 2) := by decide +kernel
theorem dL_isBalance_59 : decode cL_isBalance 59 = .ok (.aload_n 0, 1) := by decide +kernel
theorem dL_isBalance_60 : decode cL_isBalance 60 = .ok (.iload 5, 2) := by decide +kernel
theorem dL_isBalance_62 : decode cL_isBalance 62 = .ok (.invokestatic 108, 3) := by decide +kernel
theorem dL_isBalance_65 : decode cL_isBalance 65 = .ok (.aload_n 1, 1) := by decide +kernel
theorem dL_isBalance_66 : decode cL_isBalance 66 = .ok (.iload 5, 2) := by decide +kernel
theorem dL_isBalance_68 : decode cL_isBalance 68 = .ok (.iload_n 2, 1) := by decide +kernel
theorem dL_isBalance_69 : decode cL_isBalance 69 = .ok (.iload_n 3, 1) := by decide +kernel
theorem dL_isBalance_70 : decode cL_isBalance 70 = .ok (.invokestatic 111, 3) := by decide +kernel
theorem dL_isBalance_73 : decode cL_isBalance 73 = .ok (.i2l, 1) := by decide +kernel
theorem dL_isBalance_74 : decode cL_isBalance 74 = .ok (.invokestatic 100, 3) := by decide +kernel
theorem dL_isBalance_77 : decode cL_isBalance 77 = .ok (.invokestatic 115, 3) := by decide +kernel
theorem dL_isBalance_80 : decode cL_isBalance 80 = .ok (.invokestatic 119, 3) := by decide +kernel
theorem dL_isBalance_83 : decode cL_isBalance 83 = .ok (.astore 4, 2) := by decide +kernel
theorem dL_isBalance_85 : decode cL_isBalance 85 = .ok (.iinc 5 1, 3) := by decide +kernel
theorem dL_isBalance_88 : decode cL_isBalance 88 = .ok (.goto (-52), 3) := by decide +kernel
theorem dL_isBalance_91 : decode cL_isBalance 91 = .ok (.aload_n 1, 1) := by decide +kernel
theorem dL_isBalance_92 : decode cL_isBalance 92 = .ok (.getfield 66, 3) := by decide +kernel
theorem dL_isBalance_95 : decode cL_isBalance 95 = .ok (.iload_n 2, 1) := by decide +kernel
theorem dL_isBalance_96 : decode cL_isBalance 96 = .ok (.iaload, 1) := by decide +kernel
theorem dL_isBalance_97 : decode cL_isBalance 97 = .ok (.iload_n 3, 1) := by decide +kernel
theorem dL_isBalance_98 : decode cL_isBalance 98 = .ok (.invokestatic 104, 3) := by decide +kernel
theorem dL_isBalance_101 : decode cL_isBalance 101 = .ok (.istore 5, 2) := by decide +kernel
theorem dL_isBalance_103 : decode cL_isBalance 103 = .ok (.aload_n 0, 1) := by decide +kernel
theorem dL_isBalance_104 : decode cL_isBalance 104 = .ok (.iload_n 2, 1) := by decide +kernel
theorem dL_isBalance_105 : decode cL_isBalance 105 = .ok (.iload_n 3, 1) := by decide +kernel
theorem dL_isBalance_106 : decode cL_isBalance 106 = .ok (.invokestatic 122, 3) := by decide +kernel
theorem dL_isBalance_109 : decode cL_isBalance 109 = .ok (.astore 6, 2) := by decide +kernel
theorem dL_isBalance_111 : decode cL_isBalance 111 = .ok (.iload 5, 2) := by decide +kernel
theorem dL_isBalance_113 : decode cL_isBalance 113 = .ok (.ifCond .eq 28, 3) := by decide +kernel
theorem dL_isBalance_116 : decode cL_isBalance 116 = .ok (.aload 6, 2) := by decide +kernel
theorem dL_isBalance_118 : decode cL_isBalance 118 = .ok (.invokestatic 125, 3) := by decide +kernel
theorem dL_isBalance_121 : decode cL_isBalance 121 = .ok (.ifCond .eq 34, 3) := by decide +kernel
theorem dL_isBalance_124 : decode cL_isBalance 124 = .ok (.aload 4, 2) := by decide +kernel
theorem dL_isBalance_126 : decode cL_isBalance 126 = .ok (.aload 6, 2) := by decide +kernel
theorem dL_isBalance_128 : decode cL_isBalance 128 = .ok (.invokestatic 119, 3) := by decide +kernel
theorem dL_isBalance_131 : decode cL_isBalance 131 = .ok (.iconst 0, 1) := by decide +kernel
theorem dL_isBalance_132 : decode cL_isBalance 132 = .ok (.laload, 1) := by decide +kernel
theorem dL_isBalance_133 : decode cL_isBalance 133 = .ok (.lconst 0, 1) := by decide +kernel
theorem dL_isBalance_134 : decode cL_isBalance 134 = .ok (.lcmp, 1) := by decide +kernel
theorem dL_isBalance_135 : decode cL_isBalance 135 = .ok (.ifCond .eq 22, 3) := by decide +kernel
theorem dL_isBalance_138 : decode cL_isBalance 138 = .ok (.goto 17, 3) := by decide +kernel
theorem dL_isBalance_141 : decode cL_isBalance 141 = .ok (.aload 4, 2) := by decide +kernel
theorem dL_isBalance_143 : decode cL_isBalance 143 = .ok (.iconst 0, 1) := by decide +kernel
theorem dL_isBalance_144 : decode cL_isBalance 144 = .ok (.laload, 1) := by decide +kernel
theorem dL_isBalance_145 : decode cL_isBalance 145 = .ok (.lconst 0, 1) := by decide +kernel
theorem dL_isBalance_146 : decode cL_isBalance 146 = .ok (.lcmp, 1) := by decide +kernel
theorem dL_isBalance_147 : decode cL_isBalance 147 = .ok (.ifCond .ne 8, 3) := by decide +kernel
theorem dL_isBalance_150 : decode cL_isBalance 150 = .ok (.aload 6, 2) := by decide +kernel
theorem dL_isBalance_152 : decode cL_isBalance 152 = .ok (.ifnull 5, 3) := by decide +kernel
theorem dL_isBalance_155 : decode cL_isBalance 155 = .ok (.iconst 0, 1) := by decide +kernel
theorem dL_isBalance_156 : decode cL_isBalance 156 = .ok (.ireturn, 1) := by decide +kernel
theorem dL_isBalance_157 : decode cL_isBalance 157 = .ok (.iinc 3 1, 3) := by decide +kernel
theorem dL_isBalance_160 : decode cL_isBalance 160 = .ok (.goto (-148), 3) := by decide +kernel
theorem dL_isBalance_163 : decode cL_isBalance 163 = .ok (.iinc 2 1, 3) := by decide +kernel
theorem dL_isBalance_166 : decode cL_isBalance 166 = .ok (.goto (-164), 3) := by decide +kernel
theorem dL_isBalance_169 : decode cL_isBalance 169 = .ok (.iconst 1, 1) := by decide +kernel
theorem dL_isBalance_170 : decode cL_isBalance 170 = .ok (.ireturn, 1) := by decide +kernel
set_option maxRecDepth 20000 in
theorem ggL_spareAt_X7_count : GoodIn wsL_spareAt wsX7_count := goodIn_r _ [5, 6, 7, 8, 9, 10, 11, 12, 13, 14, 15, 16, 17, 18, 19, 20, 21, 22, 23, 24, 25, 26, 27, 28, 29, 30, 31, 32, 33, 34, 35, 36, 37, 38, 4, 39, 40, 41, 42, 43, 44, 45, 46, 47, 48, 49, 50, 51, 52, 53, 54, 55, 56, 57, 58, 59, 60, 61, 62, 63, 64, 65, 66, 67, 68, 69, 70, 71, 72, 73, 74, 75, 76, 77, 78, 79, 80, 81, 82, 83, 84, 85, 86, 87, 88, 89, 90, 91, 92, 93, 94, 95, 96, 97, 98, 99, 100, 101, 102, 103, 104, 105, 106, 107, 108, 109, 110, 111, 112, 113, 114, 115, 116, 117, 118, 119, 120, 121, 122, 123, 124, 125, 126, 127, 132, 133, 134, 135, 136, 137, 138, 139, 140, 141, 142, 143, 144, 145, 146, 147, 148, 149, 150, 151, 152, 153, 154, 155, 156, 157, 158, 159, 160, 161, 162, 163, 164, 165, 166] (by decide +kernel) (by decide +kernel)
set_option maxRecDepth 20000 in
theorem gL_spareAt_X7_count : GoodIn wsL_spareAt (wsV RL 97 RX7 yX7_count wsX7_count) := goodIn_app (goodIn_of _ (by decide +kernel)) ggL_spareAt_X7_count
set_option maxRecDepth 20000 in
theorem ggL_spareAt_J6_numberOfTrailingZeros_0f7a4 : GoodIn wsL_spareAt wsJ6_numberOfTrailingZeros_0f7a4 := goodIn_r _ [130, 131] (by decide +kernel) (by decide +kernel)
set_option maxRecDepth 20000 in
theorem gL_spareAt_J6_numberOfTrailingZeros_0f7a4 : GoodIn wsL_spareAt (va_wsS RL 140 yJ6_numberOfTrailingZeros_0f7a4 wsJ6_numberOfTrailingZeros_0f7a4) := goodIn_app (goodIn_of _ (by decide +kernel)) ggL_spareAt_J6_numberOfTrailingZeros_0f7a4
theorem dL_spareAt_0 : decode cL_spareAt 0 = .ok (.aload_n 0, 1) := by decide +kernel
theorem dL_spareAt_1 : decode cL_spareAt 1 = .ok (.bipush 6, 2) := by decide +kernel
theorem dL_spareAt_3 : decode cL_spareAt 3 = .ok (.invokevirtual 97, 3) := by decide +kernel
theorem dL_spareAt_6 : decode cL_spareAt 6 = .ok (.istore_n 2, 1) := by decide +kernel
theorem dL_spareAt_7 : decode cL_spareAt 7 = .ok (.iconst 0, 1) := by decide +kernel
theorem dL_spareAt_8 : decode cL_spareAt 8 = .ok (.istore_n 3, 1) := by decide +kernel
theorem dL_spareAt_9 : decode cL_spareAt 9 = .ok (.iload_n 3, 1) := by decide +kernel
theorem dL_spareAt_10 : decode cL_spareAt 10 = .ok (.iload_n 1, 1) := by decide +kernel
theorem dL_spareAt_11 : decode cL_spareAt 11 = .ok (.if_icmp .ge 15, 3) := by decide +kernel
theorem dL_spareAt_14 : decode cL_spareAt 14 = .ok (.iload_n 2, 1) := by decide +kernel
theorem dL_spareAt_15 : decode cL_spareAt 15 = .ok (.iload_n 2, 1) := by decide +kernel
theorem dL_spareAt_16 : decode cL_spareAt 16 = .ok (.iconst 1, 1) := by decide +kernel
theorem dL_spareAt_17 : decode cL_spareAt 17 = .ok (.isub, 1) := by decide +kernel
theorem dL_spareAt_18 : decode cL_spareAt 18 = .ok (.iand, 1) := by decide +kernel
theorem dL_spareAt_19 : decode cL_spareAt 19 = .ok (.istore_n 2, 1) := by decide +kernel
theorem dL_spareAt_20 : decode cL_spareAt 20 = .ok (.iinc 3 1, 3) := by decide +kernel
theorem dL_spareAt_23 : decode cL_spareAt 23 = .ok (.goto (-14), 3) := by decide +kernel
theorem dL_spareAt_26 : decode cL_spareAt 26 = .ok (.iload_n 2, 1) := by decide +kernel
theorem dL_spareAt_27 : decode cL_spareAt 27 = .ok (.invokestatic 140, 3) := by decide +kernel
theorem dL_spareAt_30 : decode cL_spareAt 30 = .ok (.ireturn, 1) := by decide +kernel
