theorem dX9_tried_38 : decode cX9_tried 38 = .ok (.aload_n 0, 1) := by decide +kernel
theorem dX9_tried_39 : decode cX9_tried 39 = .ok (.iload_n 1, 1) := by decide +kernel
theorem dX9_tried_40 : decode cX9_tried 40 = .ok (.iload_n 2, 1) := by decide +kernel
theorem dX9_tried_41 : decode cX9_tried 41 = .ok (.iload_n 3, 1) := by decide +kernel
theorem dX9_tried_42 : decode cX9_tried 42 = .ok (.invokevirtual 131, 3) := by decide +kernel
theorem dX9_tried_45 : decode cX9_tried 45 = .ok (.aload_n 0, 1) := by decide +kernel
theorem dX9_tried_46 : decode cX9_tried 46 = .ok (.invokevirtual 135, 3) := by decide +kernel
theorem dX9_tried_49 : decode cX9_tried 49 = .ok (.istore 4, 2) := by decide +kernel
theorem dX9_tried_51 : decode cX9_tried 51 = .ok (.sipush 204, 3) := by decide +kernel
theorem dX9_tried_54 : decode cX9_tried 54 = .ok (.istore 5, 2) := by decide +kernel
theorem dX9_tried_56 : decode cX9_tried 56 = .ok (.iload 5, 2) := by decide +kernel
theorem dX9_tried_58 : decode cX9_tried 58 = .ok (.sipush 316, 3) := by decide +kernel
theorem dX9_tried_61 : decode cX9_tried 61 = .ok (.if_icmp .ge 23, 3) := by decide +kernel
theorem dX9_tried_64 : decode cX9_tried 64 = .ok (.aload_n 0, 1) := by decide +kernel
theorem dX9_tried_65 : decode cX9_tried 65 = .ok (.getfield 7, 3) := by decide +kernel
theorem dX9_tried_68 : decode cX9_tried 68 = .ok (.iload 5, 2) := by decide +kernel
theorem dX9_tried_70 : decode cX9_tried 70 = .ok (.aload_n 0, 1) := by decide +kernel
theorem dX9_tried_71 : decode cX9_tried 71 = .ok (.getfield 19, 3) := by decide +kernel
theorem dX9_tried_74 : decode cX9_tried 74 = .ok (.iload 5, 2) := by decide +kernel
theorem dX9_tried_76 : decode cX9_tried 76 = .ok (.iaload, 1) := by decide +kernel
theorem dX9_tried_77 : decode cX9_tried 77 = .ok (.iastore, 1) := by decide +kernel
theorem dX9_tried_78 : decode cX9_tried 78 = .ok (.iinc 5 1, 3) := by decide +kernel
theorem dX9_tried_81 : decode cX9_tried 81 = .ok (.goto (-25), 3) := by decide +kernel
theorem dX9_tried_84 : decode cX9_tried 84 = .ok (.iload 4, 2) := by decide +kernel
theorem dX9_tried_86 : decode cX9_tried 86 = .ok (.ireturn, 1) := by decide +kernel
set_option maxRecDepth 20000 in
theorem ggX9_would_X9_errorOf : GoodIn wsX9_would wsX9_errorOf := goodIn_r _ [5, 6, 7, 8, 9, 4, 10, 11, 12, 13, 14, 15, 16, 17, 18, 19, 20, 63, 64, 65, 66, 67, 68, 69, 70, 71, 72, 73, 74, 75, 76, 77, 78, 79, 80] (by decide +kernel) (by decide +kernel)
set_option maxRecDepth 20000 in
theorem gX9_would_X9_errorOf : GoodIn wsX9_would (wsV RX9 125 RX9 yX9_errorOf wsX9_errorOf) := goodIn_app (goodIn_of _ (by decide +kernel)) ggX9_would_X9_errorOf
set_option maxRecDepth 20000 in
theorem ggX9_would_X9_tried : GoodIn wsX9_would wsX9_tried := goodIn_r _ [24, 25, 6, 26, 27, 28, 4, 29, 17, 18, 19, 20, 14, 15, 16, 30, 31, 32, 33, 34, 35, 36, 37, 38, 39, 40, 41, 42, 43, 44, 45, 46, 47, 48, 49, 50, 51, 52, 53, 54, 55, 56, 57, 58, 59, 60, 61, 62, 63, 64, 65, 66, 67, 68, 69, 70, 71, 72, 73, 74, 75, 76, 77, 78, 79, 80] (by decide +kernel) (by decide +kernel)
set_option maxRecDepth 20000 in
theorem gX9_would_X9_tried : GoodIn wsX9_would (wsV RX9 194 RX9 yX9_tried wsX9_tried) := goodIn_app (goodIn_of _ (by decide +kernel)) ggX9_would_X9_tried
theorem dX9_would_0 : decode cX9_would 0 = .ok (.aload_n 0, 1) := by decide +kernel
theorem dX9_would_1 : decode cX9_would 1 = .ok (.iload_n 1, 1) := by decide +kernel
theorem dX9_would_2 : decode cX9_would 2 = .ok (.iload_n 2, 1) := by decide +kernel
theorem dX9_would_3 : decode cX9_would 3 = .ok (.iload_n 3, 1) := by decide +kernel
theorem dX9_would_4 : decode cX9_would 4 = .ok (.invokevirtual 125, 3) := by decide +kernel
theorem dX9_would_7 : decode cX9_would 7 = .ok (.istore 4, 2) := by decide +kernel
theorem dX9_would_9 : decode cX9_would 9 = .ok (.iload 4, 2) := by decide +kernel
theorem dX9_would_11 : decode cX9_would 11 = .ok (.ifCond .eq 8, 3) := by decide +kernel
theorem dX9_would_14 : decode cX9_would 14 = .ok (.iload 4, 2) := by decide +kernel
theorem dX9_would_16 : decode cX9_would 16 = .ok (.goto 10, 3) := by decide +kernel
theorem dX9_would_19 : decode cX9_would 19 = .ok (.aload_n 0, 1) := by decide +kernel
theorem dX9_would_20 : decode cX9_would 20 = .ok (.iload_n 1, 1) := by decide +kernel
theorem dX9_would_21 : decode cX9_would 21 = .ok (.iload_n 2, 1) := by decide +kernel
theorem dX9_would_22 : decode cX9_would 22 = .ok (.iload_n 3, 1) := by decide +kernel
theorem dX9_would_23 : decode cX9_would 23 = .ok (.invokevirtual 194, 3) := by decide +kernel
theorem dX9_would_26 : decode cX9_would 26 = .ok (.ireturn, 1) := by decide +kernel
set_option maxRecDepth 20000 in
theorem ggX9_best_X9_isCard : GoodIn wsX9_best wsX9_isCard := goodIn_r _ [5, 6, 7, 8, 4, 9, 63, 64, 65, 66, 67, 68, 69, 70, 71, 72, 73, 74, 75, 76, 77, 78, 79, 80] (by decide +kernel) (by decide +kernel)
set_option maxRecDepth 20000 in
theorem gX9_best_X9_isCard : GoodIn wsX9_best (wsV RX9 114 RX9 yX9_isCard wsX9_isCard) := goodIn_app (goodIn_of _ (by decide +kernel)) ggX9_best_X9_isCard
set_option maxRecDepth 20000 in
theorem ggX9_best_X9_errorOf : GoodIn wsX9_best wsX9_errorOf := goodIn_r _ [13, 6, 1, 2, 3, 4, 5, 7, 8, 9, 14, 15, 16, 17, 18, 19, 20, 63, 64, 65, 66, 67, 68, 69, 70, 71, 72, 73, 74, 75, 76, 77, 78, 79, 80] (by decide +kernel) (by decide +kernel)
set_option maxRecDepth 20000 in
theorem gX9_best_X9_errorOf : GoodIn wsX9_best (wsV RX9 125 RX9 yX9_errorOf wsX9_errorOf) := goodIn_app (goodIn_of _ (by decide +kernel)) ggX9_best_X9_errorOf
set_option maxRecDepth 20000 in
theorem ggX9_best_X9_tried : GoodIn wsX9_best wsX9_tried := goodIn_r _ [24, 25, 6, 26, 27, 28, 4, 29, 17, 18, 19, 20, 14, 15, 16, 30, 31, 32, 33, 34, 35, 36, 37, 38, 39, 40, 41, 42, 43, 44, 45, 46, 47, 48, 49, 50, 51, 52, 53, 54, 55, 56, 57, 58, 59, 60, 61, 62, 63, 64, 65, 66, 67, 68, 69, 70, 71, 72, 73, 74, 75, 76, 77, 78, 79, 80] (by decide +kernel) (by decide +kernel)
set_option maxRecDepth 20000 in
theorem gX9_best_X9_tried : GoodIn wsX9_best (wsV RX9 194 RX9 yX9_tried wsX9_tried) := goodIn_app (goodIn_of _ (by decide +kernel)) ggX9_best_X9_tried
theorem dX9_best_0 : decode cX9_best 0 = .ok (.aload_n 0, 1) := by decide +kernel
theorem dX9_best_1 : decode cX9_best 1 = .ok (.iload_n 1, 1) := by decide +kernel
theorem dX9_best_2 : decode cX9_best 2 = .ok (.invokevirtual 114, 3) := by decide +kernel
theorem dX9_best_5 : decode cX9_best 5 = .ok (.ifCond .ne 5, 3) := by decide +kernel
theorem dX9_best_8 : decode cX9_best 8 = .ok (.iconst (-1), 1) := by decide +kernel
theorem dX9_best_9 : decode cX9_best 9 = .ok (.ireturn, 1) := by decide +kernel
theorem dX9_best_10 : decode cX9_best 10 = .ok (.bipush (-5), 2) := by decide +kernel
theorem dX9_best_12 : decode cX9_best 12 = .ok (.istore_n 2, 1) := by decide +kernel
theorem dX9_best_13 : decode cX9_best 13 = .ok (.sipush 1000, 3) := by decide +kernel
theorem dX9_best_16 : decode cX9_best 16 = .ok (.istore_n 3, 1) := by decide +kernel
theorem dX9_best_17 : decode cX9_best 17 = .ok (.iconst 0, 1) := by decide +kernel
theorem dX9_best_18 : decode cX9_best 18 = .ok (.istore 4, 2) := by decide +kernel
theorem dX9_best_20 : decode cX9_best 20 = .ok (.iload 4, 2) := by decide +kernel
theorem dX9_best_22 : decode cX9_best 22 = .ok (.bipush 16, 2) := by decide +kernel
theorem dX9_best_24 : decode cX9_best 24 = .ok (.if_icmp .ge 86, 3) := by decide +kernel
theorem dX9_best_27 : decode cX9_best 27 = .ok (.iconst 0, 1) := by decide +kernel
theorem dX9_best_28 : decode cX9_best 28 = .ok (.istore 5, 2) := by decide +kernel
theorem dX9_best_30 : decode cX9_best 30 = .ok (.iload 5, 2) := by decide +kernel
theorem dX9_best_32 : decode cX9_best 32 = .ok (.bipush 6, 2) := by decide +kernel
theorem dX9_best_34 : decode cX9_best 34 = .ok (.if_icmp .ge 70, 3) := by decide +kernel
theorem dX9_best_37 : decode cX9_best 37 = .ok (.aload_n 0, 1) := by decide +kernel
theorem dX9_best_38 : decode cX9_best 38 = .ok (.iload_n 1, 1) := by decide +kernel
theorem dX9_best_39 : decode cX9_best 39 = .ok (.iload 4, 2) := by decide +kernel
theorem dX9_best_41 : decode cX9_best 41 = .ok (.iload 5, 2) := by decide +kernel
theorem dX9_best_43 : decode cX9_best 43 = .ok (.invokevirtual 125, 3) := by decide +kernel
theorem dX9_best_46 : decode cX9_best 46 = .ok (.ifCond .ne 15, 3) := by decide +kernel
theorem dX9_best_49 : decode cX9_best 49 = .ok (.aload_n 0, 1) := by decide +kernel
theorem dX9_best_50 : decode cX9_best 50 = .ok (.iload_n 1, 1) := by decide +kernel
theorem dX9_best_51 : decode cX9_best 51 = .ok (.iload 4, 2) := by decide +kernel
theorem dX9_best_53 : decode cX9_best 53 = .ok (.iload 5, 2) := by decide +kernel
theorem dX9_best_55 : decode cX9_best 55 = .ok (.invokevirtual 194, 3) := by decide +kernel
theorem dX9_best_58 : decode cX9_best 58 = .ok (.goto 6, 3) := by decide +kernel
theorem dX9_best_61 : decode cX9_best 61 = .ok (.sipush 1000, 3) := by decide +kernel
theorem dX9_best_64 : decode cX9_best 64 = .ok (.istore 6, 2) := by decide +kernel
theorem dX9_best_66 : decode cX9_best 66 = .ok (.iload 6, 2) := by decide +kernel
theorem dX9_best_68 : decode cX9_best 68 = .ok (.iload_n 3, 1) := by decide +kernel
theorem dX9_best_69 : decode cX9_best 69 = .ok (.if_icmp .ge 14, 3) := by decide +kernel
theorem dX9_best_72 : decode cX9_best 72 = .ok (.bipush 10, 2) := by decide +kernel
theorem dX9_best_74 : decode cX9_best 74 = .ok (.iload 4, 2) := by decide +kernel
theorem dX9_best_76 : decode cX9_best 76 = .ok (.imul, 1) := by decide +kernel
theorem dX9_best_77 : decode cX9_best 77 = .ok (.iload 5, 2) := by decide +kernel
theorem dX9_best_79 : decode cX9_best 79 = .ok (.iadd, 1) := by decide +kernel
theorem dX9_best_80 : decode cX9_best 80 = .ok (.goto 4, 3) := by decide +kernel
theorem dX9_best_83 : decode cX9_best 83 = .ok (.iload_n 2, 1) := by decide +kernel
theorem dX9_best_84 : decode cX9_best 84 = .ok (.istore_n 2, 1) := by decide +kernel
theorem dX9_best_85 : decode cX9_best 85 = .ok (.iload 6, 2) := by decide +kernel
theorem dX9_best_87 : decode cX9_best 87 = .ok (.iload_n 3, 1) := by decide +kernel
theorem dX9_best_88 : decode cX9_best 88 = .ok (.if_icmp .ge 8, 3) := by decide +kernel
theorem dX9_best_91 : decode cX9_best 91 = .ok (.iload 6, 2) := by decide +kernel
theorem dX9_best_93 : decode cX9_best 93 = .ok (.goto 4, 3) := by decide +kernel
theorem dX9_best_96 : decode cX9_best 96 = .ok (.iload_n 3, 1) := by decide +kernel
theorem dX9_best_97 : decode cX9_best 97 = .ok (.istore_n 3, 1) := by decide +kernel
theorem dX9_best_98 : decode cX9_best 98 = .ok (.iinc 5 1, 3) := by decide +kernel
theorem dX9_best_101 : decode cX9_best 101 = .ok (.goto (-71), 3) := by decide +kernel
theorem dX9_best_104 : decode cX9_best 104 = .ok (.iinc 4 1, 3) := by decide +kernel
theorem dX9_best_107 : decode cX9_best 107 = .ok (.goto (-87), 3) := by decide +kernel
theorem dX9_best_110 : decode cX9_best 110 = .ok (.iload_n 2, 1) := by decide +kernel
theorem dX9_best_111 : decode cX9_best 111 = .ok (.ireturn, 1) := by decide +kernel
set_option maxRecDepth 20000 in
theorem ggX9_holes_X9_timeHoles : GoodIn wsX9_holes wsX9_timeHoles := goodIn_r _ [5, 6, 7, 8, 9, 10, 11, 4, 12, 13, 14, 15, 16, 17, 18, 19, 20, 21, 22, 23, 24, 25, 26, 35, 36, 37, 38, 39, 40, 41, 42, 43, 44, 45, 46, 47, 48, 49, 50, 51, 52] (by decide +kernel) (by decide +kernel)
set_option maxRecDepth 20000 in
theorem gX9_holes_X9_timeHoles : GoodIn wsX9_holes (wsV RX9 164 RX9 yX9_timeHoles wsX9_timeHoles) := goodIn_app (goodIn_of _ (by decide +kernel)) ggX9_holes_X9_timeHoles
set_option maxRecDepth 20000 in
theorem ggX9_holes_X9_threadHoles : GoodIn wsX9_holes wsX9_threadHoles := goodIn_r _ [30, 13, 14, 8, 15, 16, 17, 4, 18, 19, 20, 21, 22, 23, 24, 25, 26, 31, 32, 33, 34, 35, 36, 37, 38, 39, 40, 41, 42, 43, 44, 45, 46, 47, 48, 49, 50, 51, 52] (by decide +kernel) (by decide +kernel)
set_option maxRecDepth 20000 in
theorem gX9_holes_X9_threadHoles : GoodIn wsX9_holes (wsV RX9 161 RX9 yX9_threadHoles wsX9_threadHoles) := goodIn_app (goodIn_of _ (by decide +kernel)) ggX9_holes_X9_threadHoles
theorem dX9_holes_0 : decode cX9_holes 0 = .ok (.iconst 0, 1) := by decide +kernel
theorem dX9_holes_1 : decode cX9_holes 1 = .ok (.istore_n 2, 1) := by decide +kernel
theorem dX9_holes_2 : decode cX9_holes 2 = .ok (.iconst 0, 1) := by decide +kernel
theorem dX9_holes_3 : decode cX9_holes 3 = .ok (.istore_n 3, 1) := by decide +kernel
theorem dX9_holes_4 : decode cX9_holes 4 = .ok (.iload_n 3, 1) := by decide +kernel
theorem dX9_holes_5 : decode cX9_holes 5 = .ok (.bipush 6, 2) := by decide +kernel
theorem dX9_holes_7 : decode cX9_holes 7 = .ok (.if_icmp .ge 29, 3) := by decide +kernel
theorem dX9_holes_10 : decode cX9_holes 10 = .ok (.iload_n 2, 1) := by decide +kernel
theorem dX9_holes_11 : decode cX9_holes 11 = .ok (.iload_n 1, 1) := by decide +kernel
theorem dX9_holes_12 : decode cX9_holes 12 = .ok (.ifCond .eq 11, 3) := by decide +kernel
theorem dX9_holes_15 : decode cX9_holes 15 = .ok (.aload_n 0, 1) := by decide +kernel
theorem dX9_holes_16 : decode cX9_holes 16 = .ok (.iload_n 3, 1) := by decide +kernel
theorem dX9_holes_17 : decode cX9_holes 17 = .ok (.invokevirtual 164, 3) := by decide +kernel
theorem dX9_holes_20 : decode cX9_holes 20 = .ok (.goto 8, 3) := by decide +kernel
theorem dX9_holes_23 : decode cX9_holes 23 = .ok (.aload_n 0, 1) := by decide +kernel
theorem dX9_holes_24 : decode cX9_holes 24 = .ok (.iload_n 3, 1) := by decide +kernel
theorem dX9_holes_25 : decode cX9_holes 25 = .ok (.invokevirtual 161, 3) := by decide +kernel
theorem dX9_holes_28 : decode cX9_holes 28 = .ok (.iadd, 1) := by decide +kernel
theorem dX9_holes_29 : decode cX9_holes 29 = .ok (.istore_n 2, 1) := by decide +kernel
theorem dX9_holes_30 : decode cX9_holes 30 = .ok (.iinc 3 1, 3) := by decide +kernel
theorem dX9_holes_33 : decode cX9_holes 33 = .ok (.goto (-29), 3) := by decide +kernel
theorem dX9_holes_36 : decode cX9_holes 36 = .ok (.iload_n 2, 1) := by decide +kernel
theorem dX9_holes_37 : decode cX9_holes 37 = .ok (.ireturn, 1) := by decide +kernel
set_option maxRecDepth 20000 in
theorem ggX9_ofScenes_X9_climb : GoodIn wsX9_ofScenes wsX9_climb := goodIn_r _ [5, 6, 7, 8, 4, 9, 10, 11, 12, 13, 14, 15, 16, 17, 18, 19, 20, 21, 22, 23, 24, 25, 26, 27, 28, 29, 30, 35, 36, 37, 38, 39, 40, 41, 42, 43, 44, 45, 46, 47, 48, 49, 50, 51, 52] (by decide +kernel) (by decide +kernel)
set_option maxRecDepth 20000 in
theorem gX9_ofScenes_X9_climb : GoodIn wsX9_ofScenes (wsV RX9 190 RX9 yX9_climb wsX9_climb) := goodIn_app (goodIn_of _ (by decide +kernel)) ggX9_ofScenes_X9_climb
set_option maxRecDepth 20000 in
theorem ggX9_ofScenes_X9_wordsIn : GoodIn wsX9_ofScenes wsX9_wordsIn := goodIn_r _ [30, 6, 7, 8, 4, 9, 23, 24, 25, 26, 35, 36, 37, 38, 39, 40, 41, 42, 43, 44, 45, 46, 47, 48, 49, 50, 51, 52] (by decide +kernel) (by decide +kernel)
set_option maxRecDepth 20000 in
theorem gX9_ofScenes_X9_wordsIn : GoodIn wsX9_ofScenes (wsV RX9 167 RX9 yX9_wordsIn wsX9_wordsIn) := goodIn_app (goodIn_of _ (by decide +kernel)) ggX9_ofScenes_X9_wordsIn
set_option maxRecDepth 20000 in
theorem ggX9_ofScenes_X9_isHole : GoodIn wsX9_ofScenes wsX9_isHole := goodIn_r _ [34, 6, 7, 8, 4, 9, 15, 16, 17, 18, 35, 36, 37, 38, 39, 40, 41, 42, 43, 44, 45, 46, 47, 48, 49, 50, 51, 52] (by decide +kernel) (by decide +kernel)
set_option maxRecDepth 20000 in
theorem gX9_ofScenes_X9_isHole : GoodIn wsX9_ofScenes (wsV RX9 184 RX9 yX9_isHole wsX9_isHole) := goodIn_app (goodIn_of _ (by decide +kernel)) ggX9_ofScenes_X9_isHole
theorem dX9_ofScenes_0 : decode cX9_ofScenes 0 = .ok (.iconst 0, 1) := by decide +kernel
theorem dX9_ofScenes_1 : decode cX9_ofScenes 1 = .ok (.istore_n 2, 1) := by decide +kernel
theorem dX9_ofScenes_2 : decode cX9_ofScenes 2 = .ok (.iconst 0, 1) := by decide +kernel
theorem dX9_ofScenes_3 : decode cX9_ofScenes 3 = .ok (.istore_n 3, 1) := by decide +kernel
theorem dX9_ofScenes_4 : decode cX9_ofScenes 4 = .ok (.iload_n 3, 1) := by decide +kernel
theorem dX9_ofScenes_5 : decode cX9_ofScenes 5 = .ok (.bipush 16, 2) := by decide +kernel
theorem dX9_ofScenes_7 : decode cX9_ofScenes 7 = .ok (.if_icmp .ge 65, 3) := by decide +kernel
theorem dX9_ofScenes_10 : decode cX9_ofScenes 10 = .ok (.aload_n 0, 1) := by decide +kernel
theorem dX9_ofScenes_11 : decode cX9_ofScenes 11 = .ok (.iload_n 3, 1) := by decide +kernel
theorem dX9_ofScenes_12 : decode cX9_ofScenes 12 = .ok (.invokevirtual 190, 3) := by decide +kernel
theorem dX9_ofScenes_15 : decode cX9_ofScenes 15 = .ok (.istore 4, 2) := by decide +kernel
theorem dX9_ofScenes_17 : decode cX9_ofScenes 17 = .ok (.iload_n 1, 1) := by decide +kernel
theorem dX9_ofScenes_18 : decode cX9_ofScenes 18 = .ok (.iconst 2, 1) := by decide +kernel
theorem dX9_ofScenes_19 : decode cX9_ofScenes 19 = .ok (.if_icmp .ne 18, 3) := by decide +kernel
theorem dX9_ofScenes_22 : decode cX9_ofScenes 22 = .ok (.iload 4, 2) := by decide +kernel
theorem dX9_ofScenes_24 : decode cX9_ofScenes 24 = .ok (.iload_n 2, 1) := by decide +kernel
theorem dX9_ofScenes_25 : decode cX9_ofScenes 25 = .ok (.if_icmp .le 8, 3) := by decide +kernel
theorem dX9_ofScenes_28 : decode cX9_ofScenes 28 = .ok (.iload 4, 2) := by decide +kernel
theorem dX9_ofScenes_30 : decode cX9_ofScenes 30 = .ok (.goto 35, 3) := by decide +kernel
theorem dX9_ofScenes_33 : decode cX9_ofScenes 33 = .ok (.iload_n 2, 1) := by decide +kernel
theorem dX9_ofScenes_34 : decode cX9_ofScenes 34 = .ok (.goto 31, 3) := by decide +kernel
theorem dX9_ofScenes_37 : decode cX9_ofScenes 37 = .ok (.iload_n 2, 1) := by decide +kernel
theorem dX9_ofScenes_38 : decode cX9_ofScenes 38 = .ok (.iload_n 1, 1) := by decide +kernel
theorem dX9_ofScenes_39 : decode cX9_ofScenes 39 = .ok (.iconst 1, 1) := by decide +kernel
theorem dX9_ofScenes_40 : decode cX9_ofScenes 40 = .ok (.if_icmp .ne 11, 3) := by decide +kernel
theorem dX9_ofScenes_43 : decode cX9_ofScenes 43 = .ok (.aload_n 0, 1) := by decide +kernel
theorem dX9_ofScenes_44 : decode cX9_ofScenes 44 = .ok (.iload_n 3, 1) := by decide +kernel
theorem dX9_ofScenes_45 : decode cX9_ofScenes 45 = .ok (.invokevirtual 167, 3) := by decide +kernel
theorem dX9_ofScenes_48 : decode cX9_ofScenes 48 = .ok (.goto 16, 3) := by decide +kernel
theorem dX9_ofScenes_51 : decode cX9_ofScenes 51 = .ok (.aload_n 0, 1) := by decide +kernel
theorem dX9_ofScenes_52 : decode cX9_ofScenes 52 = .ok (.iload_n 3, 1) := by decide +kernel
theorem dX9_ofScenes_53 : decode cX9_ofScenes 53 = .ok (.invokevirtual 184, 3) := by decide +kernel
theorem dX9_ofScenes_56 : decode cX9_ofScenes 56 = .ok (.ifCond .eq 7, 3) := by decide +kernel
theorem dX9_ofScenes_59 : decode cX9_ofScenes 59 = .ok (.iconst 1, 1) := by decide +kernel
theorem dX9_ofScenes_60 : decode cX9_ofScenes 60 = .ok (.goto 4, 3) := by decide +kernel
theorem dX9_ofScenes_63 : decode cX9_ofScenes 63 = .ok (.iconst 0, 1) := by decide +kernel
theorem dX9_ofScenes_64 : decode cX9_ofScenes 64 = .ok (.iadd, 1) := by decide +kernel
theorem dX9_ofScenes_65 : decode cX9_ofScenes 65 = .ok (.istore_n 2, 1) := by decide +kernel
theorem dX9_ofScenes_66 : decode cX9_ofScenes 66 = .ok (.iinc 3 1, 3) := by decide +kernel
theorem dX9_ofScenes_69 : decode cX9_ofScenes 69 = .ok (.goto (-65), 3) := by decide +kernel
theorem dX9_ofScenes_72 : decode cX9_ofScenes 72 = .ok (.iload_n 2, 1) := by decide +kernel
theorem dX9_ofScenes_73 : decode cX9_ofScenes 73 = .ok (.ireturn, 1) := by decide +kernel
set_option maxRecDepth 20000 in
theorem ggX9_standing_X9_breaks : GoodIn wsX9_standing wsX9_breaks := goodIn_r _ [5, 6, 7, 8, 9, 10, 4, 11, 12, 13, 14, 15, 16, 17, 18, 19, 20, 21, 22, 23, 24, 25, 26, 27, 28, 29, 30, 31, 32, 33, 34, 35, 36, 37, 38, 39, 40, 41, 42, 43, 44, 45, 46, 47, 48] (by decide +kernel) (by decide +kernel)
set_option maxRecDepth 20000 in
theorem gX9_standing_X9_breaks : GoodIn wsX9_standing (wsV RX9 76 RX9 yX9_breaks wsX9_breaks) := goodIn_app (goodIn_of _ (by decide +kernel)) ggX9_standing_X9_breaks
theorem dX9_standing_0 : decode cX9_standing 0 = .ok (.iconst 0, 1) := by decide +kernel
theorem dX9_standing_1 : decode cX9_standing 1 = .ok (.istore_n 1, 1) := by decide +kernel
theorem dX9_standing_2 : decode cX9_standing 2 = .ok (.iconst 0, 1) := by decide +kernel
theorem dX9_standing_3 : decode cX9_standing 3 = .ok (.istore_n 2, 1) := by decide +kernel
theorem dX9_standing_4 : decode cX9_standing 4 = .ok (.iload_n 2, 1) := by decide +kernel
theorem dX9_standing_5 : decode cX9_standing 5 = .ok (.bipush 6, 2) := by decide +kernel
theorem dX9_standing_7 : decode cX9_standing 7 = .ok (.if_icmp .ge 29, 3) := by decide +kernel
theorem dX9_standing_10 : decode cX9_standing 10 = .ok (.iload_n 1, 1) := by decide +kernel
theorem dX9_standing_11 : decode cX9_standing 11 = .ok (.aload_n 0, 1) := by decide +kernel
theorem dX9_standing_12 : decode cX9_standing 12 = .ok (.iload_n 2, 1) := by decide +kernel
theorem dX9_standing_13 : decode cX9_standing 13 = .ok (.bipush (-5), 2) := by decide +kernel
theorem dX9_standing_15 : decode cX9_standing 15 = .ok (.bipush (-5), 2) := by decide +kernel
theorem dX9_standing_17 : decode cX9_standing 17 = .ok (.invokevirtual 76, 3) := by decide +kernel
theorem dX9_standing_20 : decode cX9_standing 20 = .ok (.ifCond .ne 7, 3) := by decide +kernel
theorem dX9_standing_23 : decode cX9_standing 23 = .ok (.iconst 1, 1) := by decide +kernel
theorem dX9_standing_24 : decode cX9_standing 24 = .ok (.goto 4, 3) := by decide +kernel
theorem dX9_standing_27 : decode cX9_standing 27 = .ok (.iconst 0, 1) := by decide +kernel
theorem dX9_standing_28 : decode cX9_standing 28 = .ok (.iadd, 1) := by decide +kernel
theorem dX9_standing_29 : decode cX9_standing 29 = .ok (.istore_n 1, 1) := by decide +kernel
theorem dX9_standing_30 : decode cX9_standing 30 = .ok (.iinc 2 1, 3) := by decide +kernel
theorem dX9_standing_33 : decode cX9_standing 33 = .ok (.goto (-29), 3) := by decide +kernel
theorem dX9_standing_36 : decode cX9_standing 36 = .ok (.iload_n 1, 1) := by decide +kernel
theorem dX9_standing_37 : decode cX9_standing 37 = .ok (.ireturn, 1) := by decide +kernel
set_option maxRecDepth 20000 in
theorem ggX9_count_X9_wallMany : GoodIn wsX9_count wsX9_wallMany := goodIn_r _ [8, 9, 10, 11, 12, 7, 13, 14, 1, 15, 16, 17, 18, 90, 91, 92, 93, 94, 95, 96, 97, 98, 99, 100, 101, 102, 103, 104, 105, 106, 107] (by decide +kernel) (by decide +kernel)
set_option maxRecDepth 20000 in
theorem gX9_count_X9_wallMany : GoodIn wsX9_count (wsV RX9 149 RX9 yX9_wallMany wsX9_wallMany) := goodIn_app (goodIn_of _ (by decide +kernel)) ggX9_count_X9_wallMany
set_option maxRecDepth 20000 in
theorem ggX9_count_X9_scenes : GoodIn wsX9_count wsX9_scenes := goodIn_r _ [22, 1, 16, 17, 7, 18, 90, 91, 92, 93, 94, 95, 96, 97, 98, 99, 100, 101, 102, 103, 104, 105, 106, 107] (by decide +kernel) (by decide +kernel)
set_option maxRecDepth 20000 in
theorem gX9_count_X9_scenes : GoodIn wsX9_count (wsV RX9 142 RX9 yX9_scenes wsX9_scenes) := goodIn_app (goodIn_of _ (by decide +kernel)) ggX9_count_X9_scenes
set_option maxRecDepth 20000 in
theorem ggX9_count_X9_allBreaks : GoodIn wsX9_count wsX9_allBreaks := goodIn_r _ [26, 27, 28, 29, 7, 30, 31, 32, 33, 34, 35, 36, 9, 15, 10, 11, 12, 13, 14, 1, 16, 17, 18, 37, 38, 39, 40, 41, 42, 43, 44, 90, 91, 92, 93, 94, 95, 96, 97, 98, 99, 100, 101, 102, 103, 104, 105, 106, 107] (by decide +kernel) (by decide +kernel)
set_option maxRecDepth 20000 in
theorem gX9_count_X9_allBreaks : GoodIn wsX9_count (wsV RX9 135 RX9 yX9_allBreaks wsX9_allBreaks) := goodIn_app (goodIn_of _ (by decide +kernel)) ggX9_count_X9_allBreaks
set_option maxRecDepth 20000 in
theorem ggX9_count_X9_holes : GoodIn wsX9_count wsX9_holes := goodIn_r _ [48, 49, 50, 51, 7, 52, 31, 32, 1, 33, 34, 35, 36, 9, 15, 10, 11, 12, 13, 14, 16, 17, 18, 37, 38, 39, 40, 53, 54, 55, 56, 41, 42, 43, 44, 90, 91, 92, 93, 94, 95, 96, 97, 98, 99, 100, 101, 102, 103, 104, 105, 106, 107] (by decide +kernel) (by decide +kernel)
set_option maxRecDepth 20000 in
theorem gX9_count_X9_holes : GoodIn wsX9_count (wsV RX9 197 RX9 yX9_holes wsX9_holes) := goodIn_app (goodIn_of _ (by decide +kernel)) ggX9_count_X9_holes
set_option maxRecDepth 20000 in
theorem ggX9_count_X9_ofScenes : GoodIn wsX9_count wsX9_ofScenes := goodIn_r _ [60, 61, 62, 63, 7, 64, 1, 16, 17, 18, 65, 66, 67, 68, 69, 70, 71, 72, 73, 74, 75, 76, 77, 37, 38, 39, 40, 78, 79, 80, 81, 82, 83, 84, 85, 90, 91, 92, 93, 94, 95, 96, 97, 98, 99, 100, 101, 102, 103, 104, 105, 106, 107] (by decide +kernel) (by decide +kernel)
set_option maxRecDepth 20000 in
theorem gX9_count_X9_ofScenes : GoodIn wsX9_count (wsV RX9 201 RX9 yX9_ofScenes wsX9_ofScenes) := goodIn_app (goodIn_of _ (by decide +kernel)) ggX9_count_X9_ofScenes
set_option maxRecDepth 20000 in
theorem ggX9_count_X9_standing : GoodIn wsX9_count wsX9_standing := goodIn_r _ [89, 27, 28, 29, 7, 30, 31, 32, 33, 34, 35, 36, 9, 15, 10, 11, 12, 13, 14, 1, 16, 17, 18, 37, 38, 39, 40, 41, 42, 43, 44, 90, 91, 92, 93, 94, 95, 96, 97, 98, 99, 100, 101, 102, 103, 104, 105, 106, 107] (by decide +kernel) (by decide +kernel)
set_option maxRecDepth 20000 in
theorem gX9_count_X9_standing : GoodIn wsX9_count (wsV RX9 204 RX9 yX9_standing wsX9_standing) := goodIn_app (goodIn_of _ (by decide +kernel)) ggX9_count_X9_standing
theorem dX9_count_0 : decode cX9_count 0 = .ok (.iload_n 1, 1) := by decide +kernel
theorem dX9_count_1 : decode cX9_count 1 = .ok (.tableswitch 154 0 14 #[75, 82, 87, 92, 97, 103, 109, 115, 121, 127, 132, 132, 132, 144, 149], 75) := by decide +kernel
theorem dX9_count_76 : decode cX9_count 76 = .ok (.aload_n 0, 1) := by decide +kernel
theorem dX9_count_77 : decode cX9_count 77 = .ok (.getfield 7, 3) := by decide +kernel
theorem dX9_count_80 : decode cX9_count 80 = .ok (.iconst 0, 1) := by decide +kernel
theorem dX9_count_81 : decode cX9_count 81 = .ok (.iaload, 1) := by decide +kernel
theorem dX9_count_82 : decode cX9_count 82 = .ok (.ireturn, 1) := by decide +kernel
theorem dX9_count_83 : decode cX9_count 83 = .ok (.aload_n 0, 1) := by decide +kernel
theorem dX9_count_84 : decode cX9_count 84 = .ok (.invokevirtual 149, 3) := by decide +kernel
theorem dX9_count_87 : decode cX9_count 87 = .ok (.ireturn, 1) := by decide +kernel
theorem dX9_count_88 : decode cX9_count 88 = .ok (.aload_n 0, 1) := by decide +kernel
theorem dX9_count_89 : decode cX9_count 89 = .ok (.invokevirtual 142, 3) := by decide +kernel
theorem dX9_count_92 : decode cX9_count 92 = .ok (.ireturn, 1) := by decide +kernel
theorem dX9_count_93 : decode cX9_count 93 = .ok (.aload_n 0, 1) := by decide +kernel
theorem dX9_count_94 : decode cX9_count 94 = .ok (.invokevirtual 135, 3) := by decide +kernel
theorem dX9_count_97 : decode cX9_count 97 = .ok (.ireturn, 1) := by decide +kernel
theorem dX9_count_98 : decode cX9_count 98 = .ok (.aload_n 0, 1) := by decide +kernel
theorem dX9_count_99 : decode cX9_count 99 = .ok (.iconst 0, 1) := by decide +kernel
theorem dX9_count_100 : decode cX9_count 100 = .ok (.invokevirtual 197, 3) := by decide +kernel
theorem dX9_count_103 : decode cX9_count 103 = .ok (.ireturn, 1) := by decide +kernel
theorem dX9_count_104 : decode cX9_count 104 = .ok (.aload_n 0, 1) := by decide +kernel
theorem dX9_count_105 : decode cX9_count 105 = .ok (.iconst 1, 1) := by decide +kernel
theorem dX9_count_106 : decode cX9_count 106 = .ok (.invokevirtual 197, 3) := by decide +kernel
theorem dX9_count_109 : decode cX9_count 109 = .ok (.ireturn, 1) := by decide +kernel
theorem dX9_count_110 : decode cX9_count 110 = .ok (.aload_n 0, 1) := by decide +kernel
theorem dX9_count_111 : decode cX9_count 111 = .ok (.iconst 0, 1) := by decide +kernel
theorem dX9_count_112 : decode cX9_count 112 = .ok (.invokevirtual 201, 3) := by decide +kernel
theorem dX9_count_115 : decode cX9_count 115 = .ok (.ireturn, 1) := by decide +kernel
theorem dX9_count_116 : decode cX9_count 116 = .ok (.aload_n 0, 1) := by decide +kernel
theorem dX9_count_117 : decode cX9_count 117 = .ok (.iconst 1, 1) := by decide +kernel
theorem dX9_count_118 : decode cX9_count 118 = .ok (.invokevirtual 201, 3) := by decide +kernel
theorem dX9_count_121 : decode cX9_count 121 = .ok (.ireturn, 1) := by decide +kernel
theorem dX9_count_122 : decode cX9_count 122 = .ok (.aload_n 0, 1) := by decide +kernel
theorem dX9_count_123 : decode cX9_count 123 = .ok (.iconst 2, 1) := by decide +kernel
theorem dX9_count_124 : decode cX9_count 124 = .ok (.invokevirtual 201, 3) := by decide +kernel
theorem dX9_count_127 : decode cX9_count 127 = .ok (.ireturn, 1) := by decide +kernel
theorem dX9_count_128 : decode cX9_count 128 = .ok (.aload_n 0, 1) := by decide +kernel
theorem dX9_count_129 : decode cX9_count 129 = .ok (.invokevirtual 204, 3) := by decide +kernel
theorem dX9_count_132 : decode cX9_count 132 = .ok (.ireturn, 1) := by decide +kernel
theorem dX9_count_133 : decode cX9_count 133 = .ok (.aload_n 0, 1) := by decide +kernel
theorem dX9_count_134 : decode cX9_count 134 = .ok (.getfield 7, 3) := by decide +kernel
theorem dX9_count_137 : decode cX9_count 137 = .ok (.iconst 1, 1) := by decide +kernel
theorem dX9_count_138 : decode cX9_count 138 = .ok (.iload_n 1, 1) := by decide +kernel
theorem dX9_count_139 : decode cX9_count 139 = .ok (.iadd, 1) := by decide +kernel
theorem dX9_count_140 : decode cX9_count 140 = .ok (.bipush 10, 2) := by decide +kernel
theorem dX9_count_142 : decode cX9_count 142 = .ok (.isub, 1) := by decide +kernel
theorem dX9_count_143 : decode cX9_count 143 = .ok (.iaload, 1) := by decide +kernel
theorem dX9_count_144 : decode cX9_count 144 = .ok (.ireturn, 1) := by decide +kernel
theorem dX9_count_145 : decode cX9_count 145 = .ok (.aload_n 0, 1) := by decide +kernel
theorem dX9_count_146 : decode cX9_count 146 = .ok (.getfield 44, 3) := by decide +kernel
theorem dX9_count_149 : decode cX9_count 149 = .ok (.ireturn, 1) := by decide +kernel
theorem dX9_count_150 : decode cX9_count 150 = .ok (.aload_n 0, 1) := by decide +kernel
theorem dX9_count_151 : decode cX9_count 151 = .ok (.getfield 87, 3) := by decide +kernel
theorem dX9_count_154 : decode cX9_count 154 = .ok (.ireturn, 1) := by decide +kernel
theorem dX9_count_155 : decode cX9_count 155 = .ok (.bipush (-2), 2) := by decide +kernel
theorem dX9_count_157 : decode cX9_count 157 = .ok (.ireturn, 1) := by decide +kernel
set_option maxRecDepth 20000 in
theorem ggX9_spanBits_X9_row : GoodIn wsX9_spanBits wsX9_row := goodIn_r _ [7] (by decide +kernel) (by decide +kernel)
set_option maxRecDepth 20000 in
theorem gX9_spanBits_X9_row : GoodIn wsX9_spanBits (va_wsS RX9 55 yX9_row wsX9_row) := goodIn_app (goodIn_of _ (by decide +kernel)) ggX9_spanBits_X9_row
set_option maxRecDepth 20000 in
theorem ggX9_spanBits_X9_tensionIn : GoodIn wsX9_spanBits wsX9_tensionIn := goodIn_r _ [11, 3, 4, 5, 6, 7, 12, 13, 14, 15, 16, 17, 18, 19, 36, 37, 38, 39, 40, 41, 42, 43, 44, 45, 46, 47, 48, 49, 50, 51, 52, 53] (by decide +kernel) (by decide +kernel)
set_option maxRecDepth 20000 in
theorem gX9_spanBits_X9_tensionIn : GoodIn wsX9_spanBits (wsV RX9 173 RX9 yX9_tensionIn wsX9_tensionIn) := goodIn_app (goodIn_of _ (by decide +kernel)) ggX9_spanBits_X9_tensionIn
set_option maxRecDepth 20000 in
theorem ggX9_spanBits_X9_scenes : GoodIn wsX9_spanBits wsX9_scenes := goodIn_r _ [23, 3, 4, 5, 6, 7, 36, 37, 38, 39, 40, 41, 42, 43, 44, 45, 46, 47, 48, 49, 50, 51, 52, 53] (by decide +kernel) (by decide +kernel)
set_option maxRecDepth 20000 in
theorem gX9_spanBits_X9_scenes : GoodIn wsX9_spanBits (wsV RX9 142 RX9 yX9_scenes wsX9_scenes) := goodIn_app (goodIn_of _ (by decide +kernel)) ggX9_spanBits_X9_scenes
set_option maxRecDepth 20000 in
theorem ggX9_spanBits_Jxf58ca_floatToIntBits_5c35a : GoodIn wsX9_spanBits wsJxf58ca_floatToIntBits_5c35a := goodIn_r _ [27, 28, 29, 30, 31, 32, 33, 34, 26, 35] (by decide +kernel) (by decide +kernel)
set_option maxRecDepth 20000 in
theorem gX9_spanBits_Jxf58ca_floatToIntBits_5c35a : GoodIn wsX9_spanBits (va_wsS RX9 208 yJxf58ca_floatToIntBits_5c35a wsJxf58ca_floatToIntBits_5c35a) := goodIn_app (goodIn_of _ (by decide +kernel)) ggX9_spanBits_Jxf58ca_floatToIntBits_5c35a
theorem dX9_spanBits_0 : decode cX9_spanBits 0 = .ok (.ldc 193, 2) := by decide +kernel
theorem dX9_spanBits_2 : decode cX9_spanBits 2 = .ok (.fstore_n 1, 1) := by decide +kernel
theorem dX9_spanBits_3 : decode cX9_spanBits 3 = .ok (.ldc 207, 2) := by decide +kernel
theorem dX9_spanBits_5 : decode cX9_spanBits 5 = .ok (.fstore_n 2, 1) := by decide +kernel
theorem dX9_spanBits_6 : decode cX9_spanBits 6 = .ok (.iconst 0, 1) := by decide +kernel
theorem dX9_spanBits_7 : decode cX9_spanBits 7 = .ok (.istore_n 3, 1) := by decide +kernel
theorem dX9_spanBits_8 : decode cX9_spanBits 8 = .ok (.iload_n 3, 1) := by decide +kernel
theorem dX9_spanBits_9 : decode cX9_spanBits 9 = .ok (.bipush 16, 2) := by decide +kernel
theorem dX9_spanBits_11 : decode cX9_spanBits 11 = .ok (.if_icmp .ge 56, 3) := by decide +kernel
theorem dX9_spanBits_14 : decode cX9_spanBits 14 = .ok (.aload_n 0, 1) := by decide +kernel
theorem dX9_spanBits_15 : decode cX9_spanBits 15 = .ok (.getfield 7, 3) := by decide +kernel
theorem dX9_spanBits_18 : decode cX9_spanBits 18 = .ok (.iload_n 3, 1) := by decide +kernel
theorem dX9_spanBits_19 : decode cX9_spanBits 19 = .ok (.invokestatic 55, 3) := by decide +kernel
theorem dX9_spanBits_22 : decode cX9_spanBits 22 = .ok (.iaload, 1) := by decide +kernel
theorem dX9_spanBits_23 : decode cX9_spanBits 23 = .ok (.ifCond .le 38, 3) := by decide +kernel
theorem dX9_spanBits_26 : decode cX9_spanBits 26 = .ok (.aload_n 0, 1) := by decide +kernel
theorem dX9_spanBits_27 : decode cX9_spanBits 27 = .ok (.iload_n 3, 1) := by decide +kernel
theorem dX9_spanBits_28 : decode cX9_spanBits 28 = .ok (.invokevirtual 173, 3) := by decide +kernel
theorem dX9_spanBits_31 : decode cX9_spanBits 31 = .ok (.fstore 4, 2) := by decide +kernel
theorem dX9_spanBits_33 : decode cX9_spanBits 33 = .ok (.fload 4, 2) := by decide +kernel
theorem dX9_spanBits_35 : decode cX9_spanBits 35 = .ok (.fload_n 1, 1) := by decide +kernel
theorem dX9_spanBits_36 : decode cX9_spanBits 36 = .ok (.fcmp .l, 1) := by decide +kernel
theorem dX9_spanBits_37 : decode cX9_spanBits 37 = .ok (.ifCond .le 8, 3) := by decide +kernel
theorem dX9_spanBits_40 : decode cX9_spanBits 40 = .ok (.fload 4, 2) := by decide +kernel
theorem dX9_spanBits_42 : decode cX9_spanBits 42 = .ok (.goto 4, 3) := by decide +kernel
theorem dX9_spanBits_45 : decode cX9_spanBits 45 = .ok (.fload_n 1, 1) := by decide +kernel
theorem dX9_spanBits_46 : decode cX9_spanBits 46 = .ok (.fstore_n 1, 1) := by decide +kernel
theorem dX9_spanBits_47 : decode cX9_spanBits 47 = .ok (.fload 4, 2) := by decide +kernel
theorem dX9_spanBits_49 : decode cX9_spanBits 49 = .ok (.fload_n 2, 1) := by decide +kernel
theorem dX9_spanBits_50 : decode cX9_spanBits 50 = .ok (.fcmp .g, 1) := by decide +kernel
theorem dX9_spanBits_51 : decode cX9_spanBits 51 = .ok (.ifCond .ge 8, 3) := by decide +kernel
theorem dX9_spanBits_54 : decode cX9_spanBits 54 = .ok (.fload 4, 2) := by decide +kernel
theorem dX9_spanBits_56 : decode cX9_spanBits 56 = .ok (.goto 4, 3) := by decide +kernel
theorem dX9_spanBits_59 : decode cX9_spanBits 59 = .ok (.fload_n 2, 1) := by decide +kernel
theorem dX9_spanBits_60 : decode cX9_spanBits 60 = .ok (.fstore_n 2, 1) := by decide +kernel
theorem dX9_spanBits_61 : decode cX9_spanBits 61 = .ok (.iinc 3 1, 3) := by decide +kernel
theorem dX9_spanBits_64 : decode cX9_spanBits 64 = .ok (.goto (-56), 3) := by decide +kernel
theorem dX9_spanBits_67 : decode cX9_spanBits 67 = .ok (.aload_n 0, 1) := by decide +kernel
theorem dX9_spanBits_68 : decode cX9_spanBits 68 = .ok (.invokevirtual 142, 3) := by decide +kernel
theorem dX9_spanBits_71 : decode cX9_spanBits 71 = .ok (.ifCond .ne 7, 3) := by decide +kernel
theorem dX9_spanBits_74 : decode cX9_spanBits 74 = .ok (.iconst 0, 1) := by decide +kernel
theorem dX9_spanBits_75 : decode cX9_spanBits 75 = .ok (.goto 9, 3) := by decide +kernel
theorem dX9_spanBits_78 : decode cX9_spanBits 78 = .ok (.fload_n 1, 1) := by decide +kernel
theorem dX9_spanBits_79 : decode cX9_spanBits 79 = .ok (.fload_n 2, 1) := by decide +kernel
theorem dX9_spanBits_80 : decode cX9_spanBits 80 = .ok (.fsub, 1) := by decide +kernel
theorem dX9_spanBits_81 : decode cX9_spanBits 81 = .ok (.invokestatic 208, 3) := by decide +kernel
theorem dX9_spanBits_84 : decode cX9_spanBits 84 = .ok (.ireturn, 1) := by decide +kernel
theorem dJxf58ca_isNaN_12338_0 : decode cJxf58ca_isNaN_12338 0 = .ok (.fload_n 0, 1) := by decide +kernel
theorem dJxf58ca_isNaN_12338_1 : decode cJxf58ca_isNaN_12338 1 = .ok (.fload_n 0, 1) := by decide +kernel
theorem dJxf58ca_isNaN_12338_2 : decode cJxf58ca_isNaN_12338 2 = .ok (.fcmp .l, 1) := by decide +kernel
theorem dJxf58ca_isNaN_12338_3 : decode cJxf58ca_isNaN_12338 3 = .ok (.ifCond .eq 7, 3) := by decide +kernel
theorem dJxf58ca_isNaN_12338_6 : decode cJxf58ca_isNaN_12338 6 = .ok (.iconst 1, 1) := by decide +kernel
theorem dJxf58ca_isNaN_12338_7 : decode cJxf58ca_isNaN_12338 7 = .ok (.goto 4, 3) := by decide +kernel
theorem dJxf58ca_isNaN_12338_10 : decode cJxf58ca_isNaN_12338 10 = .ok (.iconst 0, 1) := by decide +kernel
theorem dJxf58ca_isNaN_12338_11 : decode cJxf58ca_isNaN_12338 11 = .ok (.ireturn, 1) := by decide +kernel
set_option maxRecDepth 20000 in
theorem ggJxf58ca_floatToIntBits_5c35a_Jxf58ca_isNaN_12338 : GoodIn wsJxf58ca_floatToIntBits_5c35a wsJxf58ca_isNaN_12338 := goodIn_r _ [9] (by decide +kernel) (by decide +kernel)
set_option maxRecDepth 20000 in
theorem gJxf58ca_floatToIntBits_5c35a_Jxf58ca_isNaN_12338 : GoodIn wsJxf58ca_floatToIntBits_5c35a (va_wsS RJxf58ca 59 yJxf58ca_isNaN_12338 wsJxf58ca_isNaN_12338) := goodIn_app (goodIn_of _ (by decide +kernel)) ggJxf58ca_floatToIntBits_5c35a_Jxf58ca_isNaN_12338
theorem dJxf58ca_floatToIntBits_5c35a_0 : decode cJxf58ca_floatToIntBits_5c35a 0 = .ok (.fload_n 0, 1) := by decide +kernel
theorem dJxf58ca_floatToIntBits_5c35a_1 : decode cJxf58ca_floatToIntBits_5c35a 1 = .ok (.invokestatic 59, 3) := by decide +kernel
theorem dJxf58ca_floatToIntBits_5c35a_4 : decode cJxf58ca_floatToIntBits_5c35a 4 = .ok (.ifCond .ne 8, 3) := by decide +kernel
theorem dJxf58ca_floatToIntBits_5c35a_7 : decode cJxf58ca_floatToIntBits_5c35a 7 = .ok (.fload_n 0, 1) := by decide +kernel
theorem dJxf58ca_floatToIntBits_5c35a_8 : decode cJxf58ca_floatToIntBits_5c35a 8 = .ok (.invokestatic 74, 3) := by decide +kernel
theorem dJxf58ca_floatToIntBits_5c35a_11 : decode cJxf58ca_floatToIntBits_5c35a 11 = .ok (.ireturn, 1) := by decide +kernel
theorem dJxf58ca_floatToIntBits_5c35a_12 : decode cJxf58ca_floatToIntBits_5c35a 12 = .ok (.ldc 77, 2) := by decide +kernel
theorem dJxf58ca_floatToIntBits_5c35a_14 : decode cJxf58ca_floatToIntBits_5c35a 14 = .ok (.ireturn, 1) := by decide +kernel
theorem dJ9_max_7cf53_0 : decode cJ9_max_7cf53 0 = .ok (.iload_n 0, 1) := by decide +kernel
theorem dJ9_max_7cf53_1 : decode cJ9_max_7cf53 1 = .ok (.iload_n 1, 1) := by decide +kernel
theorem dJ9_max_7cf53_2 : decode cJ9_max_7cf53 2 = .ok (.if_icmp .lt 7, 3) := by decide +kernel
theorem dJ9_max_7cf53_5 : decode cJ9_max_7cf53 5 = .ok (.iload_n 0, 1) := by decide +kernel
theorem dJ9_max_7cf53_6 : decode cJ9_max_7cf53 6 = .ok (.goto 4, 3) := by decide +kernel
theorem dJ9_max_7cf53_9 : decode cJ9_max_7cf53 9 = .ok (.iload_n 1, 1) := by decide +kernel
theorem dJ9_max_7cf53_10 : decode cJ9_max_7cf53 10 = .ok (.ireturn, 1) := by decide +kernel
abbrev vwCl : List vw_C := [(RX0, TX0, 5), (RX1, TX1, 2), (RX2, TX2, 3), (RX3, TX3, 10), (RX4, TX4, 3), (RX5, TX5, 7), (RX6, TX6, 2), (RX7, TX7, 1), (RX8, TX8, 9), (RX9, TX9, 18)]
