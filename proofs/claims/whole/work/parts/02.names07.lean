theorem dX9_placeOf_28 : decode cX9_placeOf 28 = .ok (.aload_n 0, 1) := by decide +kernel
theorem dX9_placeOf_29 : decode cX9_placeOf 29 = .ok (.getfield 7, 3) := by decide +kernel
theorem dX9_placeOf_32 : decode cX9_placeOf 32 = .ok (.iload_n 3, 1) := by decide +kernel
theorem dX9_placeOf_33 : decode cX9_placeOf 33 = .ok (.invokestatic 55, 3) := by decide +kernel
theorem dX9_placeOf_36 : decode cX9_placeOf 36 = .ok (.iconst 1, 1) := by decide +kernel
theorem dX9_placeOf_37 : decode cX9_placeOf 37 = .ok (.iadd, 1) := by decide +kernel
theorem dX9_placeOf_38 : decode cX9_placeOf 38 = .ok (.iload 4, 2) := by decide +kernel
theorem dX9_placeOf_40 : decode cX9_placeOf 40 = .ok (.iadd, 1) := by decide +kernel
theorem dX9_placeOf_41 : decode cX9_placeOf 41 = .ok (.iaload, 1) := by decide +kernel
theorem dX9_placeOf_42 : decode cX9_placeOf 42 = .ok (.iload_n 1, 1) := by decide +kernel
theorem dX9_placeOf_43 : decode cX9_placeOf 43 = .ok (.if_icmp .ne 8, 3) := by decide +kernel
theorem dX9_placeOf_46 : decode cX9_placeOf 46 = .ok (.iload 4, 2) := by decide +kernel
theorem dX9_placeOf_48 : decode cX9_placeOf 48 = .ok (.goto 4, 3) := by decide +kernel
theorem dX9_placeOf_51 : decode cX9_placeOf 51 = .ok (.iload_n 2, 1) := by decide +kernel
theorem dX9_placeOf_52 : decode cX9_placeOf 52 = .ok (.istore_n 2, 1) := by decide +kernel
theorem dX9_placeOf_53 : decode cX9_placeOf 53 = .ok (.iinc 4 1, 3) := by decide +kernel
theorem dX9_placeOf_56 : decode cX9_placeOf 56 = .ok (.goto (-42), 3) := by decide +kernel
theorem dX9_placeOf_59 : decode cX9_placeOf 59 = .ok (.iinc 3 1, 3) := by decide +kernel
theorem dX9_placeOf_62 : decode cX9_placeOf 62 = .ok (.goto (-57), 3) := by decide +kernel
theorem dX9_placeOf_65 : decode cX9_placeOf 65 = .ok (.iload_n 2, 1) := by decide +kernel
theorem dX9_placeOf_66 : decode cX9_placeOf 66 = .ok (.ireturn, 1) := by decide +kernel
set_option maxRecDepth 20000 in
theorem ggX9_layStraight_X9_layOrder : GoodIn wsX9_layStraight wsX9_layOrder := goodIn_r _ [9, 2, 10, 11, 3, 12, 13, 8, 14, 19, 20, 21, 22, 23, 24, 25, 26, 27, 28, 29, 30, 31, 32, 33, 34, 35, 36] (by decide +kernel) (by decide +kernel)
set_option maxRecDepth 20000 in
theorem gX9_layStraight_X9_layOrder : GoodIn wsX9_layStraight (wsV RX9 59 RX9 yX9_layOrder wsX9_layOrder) := goodIn_app (goodIn_of _ (by decide +kernel)) ggX9_layStraight_X9_layOrder
set_option maxRecDepth 20000 in
theorem ggX9_layStraight_X9_of : GoodIn wsX9_layStraight wsX9_of := goodIn_r _ [18, 11, 19, 20, 21, 22, 23, 24, 25, 26, 27, 28, 29, 30, 31, 32, 33, 34, 35, 36] (by decide +kernel) (by decide +kernel)
set_option maxRecDepth 20000 in
theorem gX9_layStraight_X9_of : GoodIn wsX9_layStraight (wsV RX9 65 RX9 yX9_of wsX9_of) := goodIn_app (goodIn_of _ (by decide +kernel)) ggX9_layStraight_X9_of
theorem dX9_layStraight_0 : decode cX9_layStraight 0 = .ok (.aload_n 0, 1) := by decide +kernel
theorem dX9_layStraight_1 : decode cX9_layStraight 1 = .ok (.invokevirtual 59, 3) := by decide +kernel
theorem dX9_layStraight_4 : decode cX9_layStraight 4 = .ok (.aload_n 0, 1) := by decide +kernel
theorem dX9_layStraight_5 : decode cX9_layStraight 5 = .ok (.iconst 0, 1) := by decide +kernel
theorem dX9_layStraight_6 : decode cX9_layStraight 6 = .ok (.putfield 62, 3) := by decide +kernel
theorem dX9_layStraight_9 : decode cX9_layStraight 9 = .ok (.iconst 0, 1) := by decide +kernel
theorem dX9_layStraight_10 : decode cX9_layStraight 10 = .ok (.istore_n 2, 1) := by decide +kernel
theorem dX9_layStraight_11 : decode cX9_layStraight 11 = .ok (.iload_n 2, 1) := by decide +kernel
theorem dX9_layStraight_12 : decode cX9_layStraight 12 = .ok (.aload_n 0, 1) := by decide +kernel
theorem dX9_layStraight_13 : decode cX9_layStraight 13 = .ok (.getfield 52, 3) := by decide +kernel
theorem dX9_layStraight_16 : decode cX9_layStraight 16 = .ok (.if_icmp .ge 63, 3) := by decide +kernel
theorem dX9_layStraight_19 : decode cX9_layStraight 19 = .ok (.aload_n 0, 1) := by decide +kernel
theorem dX9_layStraight_20 : decode cX9_layStraight 20 = .ok (.aload_n 0, 1) := by decide +kernel
theorem dX9_layStraight_21 : decode cX9_layStraight 21 = .ok (.getfield 22, 3) := by decide +kernel
theorem dX9_layStraight_24 : decode cX9_layStraight 24 = .ok (.iload_n 2, 1) := by decide +kernel
theorem dX9_layStraight_25 : decode cX9_layStraight 25 = .ok (.iaload, 1) := by decide +kernel
theorem dX9_layStraight_26 : decode cX9_layStraight 26 = .ok (.iconst 0, 1) := by decide +kernel
theorem dX9_layStraight_27 : decode cX9_layStraight 27 = .ok (.invokevirtual 65, 3) := by decide +kernel
theorem dX9_layStraight_30 : decode cX9_layStraight 30 = .ok (.iload_n 1, 1) := by decide +kernel
theorem dX9_layStraight_31 : decode cX9_layStraight 31 = .ok (.if_icmp .ne 42, 3) := by decide +kernel
theorem dX9_layStraight_34 : decode cX9_layStraight 34 = .ok (.aload_n 0, 1) := by decide +kernel
theorem dX9_layStraight_35 : decode cX9_layStraight 35 = .ok (.aload_n 0, 1) := by decide +kernel
theorem dX9_layStraight_36 : decode cX9_layStraight 36 = .ok (.getfield 22, 3) := by decide +kernel
theorem dX9_layStraight_39 : decode cX9_layStraight 39 = .ok (.iload_n 2, 1) := by decide +kernel
theorem dX9_layStraight_40 : decode cX9_layStraight 40 = .ok (.iaload, 1) := by decide +kernel
theorem dX9_layStraight_41 : decode cX9_layStraight 41 = .ok (.iconst 4, 1) := by decide +kernel
theorem dX9_layStraight_42 : decode cX9_layStraight 42 = .ok (.invokevirtual 65, 3) := by decide +kernel
theorem dX9_layStraight_45 : decode cX9_layStraight 45 = .ok (.ifCond .ne 28, 3) := by decide +kernel
theorem dX9_layStraight_48 : decode cX9_layStraight 48 = .ok (.aload_n 0, 1) := by decide +kernel
theorem dX9_layStraight_49 : decode cX9_layStraight 49 = .ok (.getfield 28, 3) := by decide +kernel
theorem dX9_layStraight_52 : decode cX9_layStraight 52 = .ok (.aload_n 0, 1) := by decide +kernel
theorem dX9_layStraight_53 : decode cX9_layStraight 53 = .ok (.getfield 62, 3) := by decide +kernel
theorem dX9_layStraight_56 : decode cX9_layStraight 56 = .ok (.aload_n 0, 1) := by decide +kernel
theorem dX9_layStraight_57 : decode cX9_layStraight 57 = .ok (.getfield 22, 3) := by decide +kernel
theorem dX9_layStraight_60 : decode cX9_layStraight 60 = .ok (.iload_n 2, 1) := by decide +kernel
theorem dX9_layStraight_61 : decode cX9_layStraight 61 = .ok (.iaload, 1) := by decide +kernel
theorem dX9_layStraight_62 : decode cX9_layStraight 62 = .ok (.iastore, 1) := by decide +kernel
theorem dX9_layStraight_63 : decode cX9_layStraight 63 = .ok (.aload_n 0, 1) := by decide +kernel
theorem dX9_layStraight_64 : decode cX9_layStraight 64 = .ok (.dup, 1) := by decide +kernel
theorem dX9_layStraight_65 : decode cX9_layStraight 65 = .ok (.getfield 62, 3) := by decide +kernel
theorem dX9_layStraight_68 : decode cX9_layStraight 68 = .ok (.iconst 1, 1) := by decide +kernel
theorem dX9_layStraight_69 : decode cX9_layStraight 69 = .ok (.iadd, 1) := by decide +kernel
theorem dX9_layStraight_70 : decode cX9_layStraight 70 = .ok (.putfield 62, 3) := by decide +kernel
theorem dX9_layStraight_73 : decode cX9_layStraight 73 = .ok (.iinc 2 1, 3) := by decide +kernel
theorem dX9_layStraight_76 : decode cX9_layStraight 76 = .ok (.goto (-65), 3) := by decide +kernel
theorem dX9_layStraight_79 : decode cX9_layStraight 79 = .ok (.return_, 1) := by decide +kernel
set_option maxRecDepth 20000 in
theorem ggX9_breaks_X9_layStraight : GoodIn wsX9_breaks wsX9_layStraight := goodIn_r _ [7, 1, 8, 9, 2, 10, 11, 12, 6, 13, 14, 15, 16, 17, 18, 19, 20, 21, 22, 27, 28, 29, 30, 31, 32, 33, 34, 35, 36, 37, 38, 39, 40, 41, 42, 43, 44] (by decide +kernel) (by decide +kernel)
set_option maxRecDepth 20000 in
theorem gX9_breaks_X9_layStraight : GoodIn wsX9_breaks (wsV RX9 69 RX9 yX9_layStraight wsX9_layStraight) := goodIn_app (goodIn_of _ (by decide +kernel)) ggX9_breaks_X9_layStraight
set_option maxRecDepth 20000 in
theorem ggX9_breaks_X9_of : GoodIn wsX9_breaks wsX9_of := goodIn_r _ [22, 15, 27, 28, 29, 30, 31, 32, 33, 34, 35, 36, 37, 38, 39, 40, 41, 42, 43, 44] (by decide +kernel) (by decide +kernel)
set_option maxRecDepth 20000 in
theorem gX9_breaks_X9_of : GoodIn wsX9_breaks (wsV RX9 65 RX9 yX9_of wsX9_of) := goodIn_app (goodIn_of _ (by decide +kernel)) ggX9_breaks_X9_of
set_option maxRecDepth 20000 in
theorem ggX9_breaks_X9_sceneOf : GoodIn wsX9_breaks wsX9_sceneOf := goodIn_r _ [26, 15, 16, 17, 6, 18, 27, 28, 29, 30, 31, 32, 33, 34, 35, 36, 37, 38, 39, 40, 41, 42, 43, 44] (by decide +kernel) (by decide +kernel)
set_option maxRecDepth 20000 in
theorem gX9_breaks_X9_sceneOf : GoodIn wsX9_breaks (wsV RX9 73 RX9 yX9_sceneOf wsX9_sceneOf) := goodIn_app (goodIn_of _ (by decide +kernel)) ggX9_breaks_X9_sceneOf
theorem dX9_breaks_0 : decode cX9_breaks 0 = .ok (.aload_n 0, 1) := by decide +kernel
theorem dX9_breaks_1 : decode cX9_breaks 1 = .ok (.iload_n 1, 1) := by decide +kernel
theorem dX9_breaks_2 : decode cX9_breaks 2 = .ok (.invokevirtual 69, 3) := by decide +kernel
theorem dX9_breaks_5 : decode cX9_breaks 5 = .ok (.iconst 0, 1) := by decide +kernel
theorem dX9_breaks_6 : decode cX9_breaks 6 = .ok (.istore 4, 2) := by decide +kernel
theorem dX9_breaks_8 : decode cX9_breaks 8 = .ok (.iconst 1, 1) := by decide +kernel
theorem dX9_breaks_9 : decode cX9_breaks 9 = .ok (.istore 5, 2) := by decide +kernel
theorem dX9_breaks_11 : decode cX9_breaks 11 = .ok (.iload 5, 2) := by decide +kernel
theorem dX9_breaks_13 : decode cX9_breaks 13 = .ok (.aload_n 0, 1) := by decide +kernel
theorem dX9_breaks_14 : decode cX9_breaks 14 = .ok (.getfield 62, 3) := by decide +kernel
theorem dX9_breaks_17 : decode cX9_breaks 17 = .ok (.if_icmp .ge 98, 3) := by decide +kernel
theorem dX9_breaks_20 : decode cX9_breaks 20 = .ok (.aload_n 0, 1) := by decide +kernel
theorem dX9_breaks_21 : decode cX9_breaks 21 = .ok (.aload_n 0, 1) := by decide +kernel
theorem dX9_breaks_22 : decode cX9_breaks 22 = .ok (.getfield 28, 3) := by decide +kernel
theorem dX9_breaks_25 : decode cX9_breaks 25 = .ok (.iload 5, 2) := by decide +kernel
theorem dX9_breaks_27 : decode cX9_breaks 27 = .ok (.iaload, 1) := by decide +kernel
theorem dX9_breaks_28 : decode cX9_breaks 28 = .ok (.iconst 1, 1) := by decide +kernel
theorem dX9_breaks_29 : decode cX9_breaks 29 = .ok (.invokevirtual 65, 3) := by decide +kernel
theorem dX9_breaks_32 : decode cX9_breaks 32 = .ok (.aload_n 0, 1) := by decide +kernel
theorem dX9_breaks_33 : decode cX9_breaks 33 = .ok (.aload_n 0, 1) := by decide +kernel
theorem dX9_breaks_34 : decode cX9_breaks 34 = .ok (.getfield 28, 3) := by decide +kernel
theorem dX9_breaks_37 : decode cX9_breaks 37 = .ok (.iload 5, 2) := by decide +kernel
theorem dX9_breaks_39 : decode cX9_breaks 39 = .ok (.iconst 1, 1) := by decide +kernel
theorem dX9_breaks_40 : decode cX9_breaks 40 = .ok (.isub, 1) := by decide +kernel
theorem dX9_breaks_41 : decode cX9_breaks 41 = .ok (.iaload, 1) := by decide +kernel
theorem dX9_breaks_42 : decode cX9_breaks 42 = .ok (.iconst 1, 1) := by decide +kernel
theorem dX9_breaks_43 : decode cX9_breaks 43 = .ok (.invokevirtual 65, 3) := by decide +kernel
theorem dX9_breaks_46 : decode cX9_breaks 46 = .ok (.if_icmp .ge 7, 3) := by decide +kernel
theorem dX9_breaks_49 : decode cX9_breaks 49 = .ok (.iconst 1, 1) := by decide +kernel
theorem dX9_breaks_50 : decode cX9_breaks 50 = .ok (.goto 4, 3) := by decide +kernel
theorem dX9_breaks_53 : decode cX9_breaks 53 = .ok (.iconst 0, 1) := by decide +kernel
theorem dX9_breaks_54 : decode cX9_breaks 54 = .ok (.istore 6, 2) := by decide +kernel
theorem dX9_breaks_56 : decode cX9_breaks 56 = .ok (.iload 4, 2) := by decide +kernel
theorem dX9_breaks_58 : decode cX9_breaks 58 = .ok (.iload 6, 2) := by decide +kernel
theorem dX9_breaks_60 : decode cX9_breaks 60 = .ok (.ifCond .eq 45, 3) := by decide +kernel
theorem dX9_breaks_63 : decode cX9_breaks 63 = .ok (.iload_n 2, 1) := by decide +kernel
theorem dX9_breaks_64 : decode cX9_breaks 64 = .ok (.bipush (-5), 2) := by decide +kernel
theorem dX9_breaks_66 : decode cX9_breaks 66 = .ok (.if_icmp .eq 18, 3) := by decide +kernel
theorem dX9_breaks_69 : decode cX9_breaks 69 = .ok (.aload_n 0, 1) := by decide +kernel
theorem dX9_breaks_70 : decode cX9_breaks 70 = .ok (.aload_n 0, 1) := by decide +kernel
theorem dX9_breaks_71 : decode cX9_breaks 71 = .ok (.getfield 28, 3) := by decide +kernel
theorem dX9_breaks_74 : decode cX9_breaks 74 = .ok (.iload 5, 2) := by decide +kernel
theorem dX9_breaks_76 : decode cX9_breaks 76 = .ok (.iaload, 1) := by decide +kernel
theorem dX9_breaks_77 : decode cX9_breaks 77 = .ok (.invokevirtual 73, 3) := by decide +kernel
theorem dX9_breaks_80 : decode cX9_breaks 80 = .ok (.iload_n 2, 1) := by decide +kernel
theorem dX9_breaks_81 : decode cX9_breaks 81 = .ok (.if_icmp .ne 24, 3) := by decide +kernel
theorem dX9_breaks_84 : decode cX9_breaks 84 = .ok (.iload_n 3, 1) := by decide +kernel
theorem dX9_breaks_85 : decode cX9_breaks 85 = .ok (.bipush (-5), 2) := by decide +kernel
theorem dX9_breaks_87 : decode cX9_breaks 87 = .ok (.if_icmp .eq 14, 3) := by decide +kernel
theorem dX9_breaks_90 : decode cX9_breaks 90 = .ok (.aload_n 0, 1) := by decide +kernel
theorem dX9_breaks_91 : decode cX9_breaks 91 = .ok (.getfield 28, 3) := by decide +kernel
theorem dX9_breaks_94 : decode cX9_breaks 94 = .ok (.iload 5, 2) := by decide +kernel
theorem dX9_breaks_96 : decode cX9_breaks 96 = .ok (.iaload, 1) := by decide +kernel
theorem dX9_breaks_97 : decode cX9_breaks 97 = .ok (.iload_n 3, 1) := by decide +kernel
theorem dX9_breaks_98 : decode cX9_breaks 98 = .ok (.if_icmp .ne 7, 3) := by decide +kernel
theorem dX9_breaks_101 : decode cX9_breaks 101 = .ok (.iconst 1, 1) := by decide +kernel
theorem dX9_breaks_102 : decode cX9_breaks 102 = .ok (.goto 4, 3) := by decide +kernel
theorem dX9_breaks_105 : decode cX9_breaks 105 = .ok (.iconst 0, 1) := by decide +kernel
theorem dX9_breaks_106 : decode cX9_breaks 106 = .ok (.iadd, 1) := by decide +kernel
theorem dX9_breaks_107 : decode cX9_breaks 107 = .ok (.istore 4, 2) := by decide +kernel
theorem dX9_breaks_109 : decode cX9_breaks 109 = .ok (.iinc 5 1, 3) := by decide +kernel
theorem dX9_breaks_112 : decode cX9_breaks 112 = .ok (.goto (-101), 3) := by decide +kernel
theorem dX9_breaks_115 : decode cX9_breaks 115 = .ok (.iload 4, 2) := by decide +kernel
theorem dX9_breaks_117 : decode cX9_breaks 117 = .ok (.ireturn, 1) := by decide +kernel
set_option maxRecDepth 20000 in
theorem ggX9_allBreaks_X9_breaks : GoodIn wsX9_allBreaks wsX9_breaks := goodIn_r _ [5, 6, 7, 8, 9, 10, 4, 11, 12, 13, 14, 15, 16, 17, 18, 19, 20, 21, 22, 23, 24, 25, 26, 27, 28, 29, 30, 31, 32, 33, 34, 35, 36, 37, 38, 39, 40, 41, 42, 43, 44, 45, 46, 47, 48] (by decide +kernel) (by decide +kernel)
set_option maxRecDepth 20000 in
theorem gX9_allBreaks_X9_breaks : GoodIn wsX9_allBreaks (wsV RX9 76 RX9 yX9_breaks wsX9_breaks) := goodIn_app (goodIn_of _ (by decide +kernel)) ggX9_allBreaks_X9_breaks
theorem dX9_allBreaks_0 : decode cX9_allBreaks 0 = .ok (.iconst 0, 1) := by decide +kernel
theorem dX9_allBreaks_1 : decode cX9_allBreaks 1 = .ok (.istore_n 1, 1) := by decide +kernel
theorem dX9_allBreaks_2 : decode cX9_allBreaks 2 = .ok (.iconst 0, 1) := by decide +kernel
theorem dX9_allBreaks_3 : decode cX9_allBreaks 3 = .ok (.istore_n 2, 1) := by decide +kernel
theorem dX9_allBreaks_4 : decode cX9_allBreaks 4 = .ok (.iload_n 2, 1) := by decide +kernel
theorem dX9_allBreaks_5 : decode cX9_allBreaks 5 = .ok (.bipush 6, 2) := by decide +kernel
theorem dX9_allBreaks_7 : decode cX9_allBreaks 7 = .ok (.if_icmp .ge 21, 3) := by decide +kernel
theorem dX9_allBreaks_10 : decode cX9_allBreaks 10 = .ok (.iload_n 1, 1) := by decide +kernel
theorem dX9_allBreaks_11 : decode cX9_allBreaks 11 = .ok (.aload_n 0, 1) := by decide +kernel
theorem dX9_allBreaks_12 : decode cX9_allBreaks 12 = .ok (.iload_n 2, 1) := by decide +kernel
theorem dX9_allBreaks_13 : decode cX9_allBreaks 13 = .ok (.bipush (-5), 2) := by decide +kernel
theorem dX9_allBreaks_15 : decode cX9_allBreaks 15 = .ok (.bipush (-5), 2) := by decide +kernel
theorem dX9_allBreaks_17 : decode cX9_allBreaks 17 = .ok (.invokevirtual 76, 3) := by decide +kernel
theorem dX9_allBreaks_20 : decode cX9_allBreaks 20 = .ok (.iadd, 1) := by decide +kernel
theorem dX9_allBreaks_21 : decode cX9_allBreaks 21 = .ok (.istore_n 1, 1) := by decide +kernel
theorem dX9_allBreaks_22 : decode cX9_allBreaks 22 = .ok (.iinc 2 1, 3) := by decide +kernel
theorem dX9_allBreaks_25 : decode cX9_allBreaks 25 = .ok (.goto (-21), 3) := by decide +kernel
theorem dX9_allBreaks_28 : decode cX9_allBreaks 28 = .ok (.iload_n 1, 1) := by decide +kernel
theorem dX9_allBreaks_29 : decode cX9_allBreaks 29 = .ok (.ireturn, 1) := by decide +kernel
theorem dX9_write_0 : decode cX9_write 0 = .ok (.iconst 4, 1) := by decide +kernel
theorem dX9_write_1 : decode cX9_write 1 = .ok (.iconst 5, 1) := by decide +kernel
theorem dX9_write_2 : decode cX9_write 2 = .ok (.aload_n 0, 1) := by decide +kernel
theorem dX9_write_3 : decode cX9_write 3 = .ok (.getfield 7, 3) := by decide +kernel
theorem dX9_write_6 : decode cX9_write 6 = .ok (.iconst 0, 1) := by decide +kernel
theorem dX9_write_7 : decode cX9_write 7 = .ok (.iaload, 1) := by decide +kernel
theorem dX9_write_8 : decode cX9_write 8 = .ok (.imul, 1) := by decide +kernel
theorem dX9_write_9 : decode cX9_write 9 = .ok (.iadd, 1) := by decide +kernel
theorem dX9_write_10 : decode cX9_write 10 = .ok (.istore 6, 2) := by decide +kernel
theorem dX9_write_12 : decode cX9_write 12 = .ok (.aload_n 0, 1) := by decide +kernel
theorem dX9_write_13 : decode cX9_write 13 = .ok (.getfield 7, 3) := by decide +kernel
theorem dX9_write_16 : decode cX9_write 16 = .ok (.iload 6, 2) := by decide +kernel
theorem dX9_write_18 : decode cX9_write 18 = .ok (.iconst 0, 1) := by decide +kernel
theorem dX9_write_19 : decode cX9_write 19 = .ok (.iadd, 1) := by decide +kernel
theorem dX9_write_20 : decode cX9_write 20 = .ok (.iload_n 1, 1) := by decide +kernel
theorem dX9_write_21 : decode cX9_write 21 = .ok (.iastore, 1) := by decide +kernel
theorem dX9_write_22 : decode cX9_write 22 = .ok (.aload_n 0, 1) := by decide +kernel
theorem dX9_write_23 : decode cX9_write 23 = .ok (.getfield 7, 3) := by decide +kernel
theorem dX9_write_26 : decode cX9_write 26 = .ok (.iload 6, 2) := by decide +kernel
theorem dX9_write_28 : decode cX9_write 28 = .ok (.iconst 1, 1) := by decide +kernel
theorem dX9_write_29 : decode cX9_write 29 = .ok (.iadd, 1) := by decide +kernel
theorem dX9_write_30 : decode cX9_write 30 = .ok (.iload_n 2, 1) := by decide +kernel
theorem dX9_write_31 : decode cX9_write 31 = .ok (.iastore, 1) := by decide +kernel
theorem dX9_write_32 : decode cX9_write 32 = .ok (.aload_n 0, 1) := by decide +kernel
theorem dX9_write_33 : decode cX9_write 33 = .ok (.getfield 7, 3) := by decide +kernel
theorem dX9_write_36 : decode cX9_write 36 = .ok (.iload 6, 2) := by decide +kernel
theorem dX9_write_38 : decode cX9_write 38 = .ok (.iconst 2, 1) := by decide +kernel
theorem dX9_write_39 : decode cX9_write 39 = .ok (.iadd, 1) := by decide +kernel
theorem dX9_write_40 : decode cX9_write 40 = .ok (.iload_n 3, 1) := by decide +kernel
theorem dX9_write_41 : decode cX9_write 41 = .ok (.iastore, 1) := by decide +kernel
theorem dX9_write_42 : decode cX9_write 42 = .ok (.aload_n 0, 1) := by decide +kernel
theorem dX9_write_43 : decode cX9_write 43 = .ok (.getfield 7, 3) := by decide +kernel
theorem dX9_write_46 : decode cX9_write 46 = .ok (.iload 6, 2) := by decide +kernel
theorem dX9_write_48 : decode cX9_write 48 = .ok (.iconst 3, 1) := by decide +kernel
theorem dX9_write_49 : decode cX9_write 49 = .ok (.iadd, 1) := by decide +kernel
theorem dX9_write_50 : decode cX9_write 50 = .ok (.iload 4, 2) := by decide +kernel
theorem dX9_write_52 : decode cX9_write 52 = .ok (.iastore, 1) := by decide +kernel
theorem dX9_write_53 : decode cX9_write 53 = .ok (.aload_n 0, 1) := by decide +kernel
theorem dX9_write_54 : decode cX9_write 54 = .ok (.getfield 7, 3) := by decide +kernel
theorem dX9_write_57 : decode cX9_write 57 = .ok (.iload 6, 2) := by decide +kernel
theorem dX9_write_59 : decode cX9_write 59 = .ok (.iconst 4, 1) := by decide +kernel
theorem dX9_write_60 : decode cX9_write 60 = .ok (.iadd, 1) := by decide +kernel
theorem dX9_write_61 : decode cX9_write 61 = .ok (.iload 5, 2) := by decide +kernel
theorem dX9_write_63 : decode cX9_write 63 = .ok (.iastore, 1) := by decide +kernel
theorem dX9_write_64 : decode cX9_write 64 = .ok (.aload_n 0, 1) := by decide +kernel
theorem dX9_write_65 : decode cX9_write 65 = .ok (.getfield 7, 3) := by decide +kernel
theorem dX9_write_68 : decode cX9_write 68 = .ok (.iconst 0, 1) := by decide +kernel
theorem dX9_write_69 : decode cX9_write 69 = .ok (.dup2, 1) := by decide +kernel
theorem dX9_write_70 : decode cX9_write 70 = .ok (.iaload, 1) := by decide +kernel
theorem dX9_write_71 : decode cX9_write 71 = .ok (.iconst 1, 1) := by decide +kernel
theorem dX9_write_72 : decode cX9_write 72 = .ok (.iadd, 1) := by decide +kernel
theorem dX9_write_73 : decode cX9_write 73 = .ok (.iastore, 1) := by decide +kernel
theorem dX9_write_74 : decode cX9_write 74 = .ok (.return_, 1) := by decide +kernel
set_option maxRecDepth 20000 in
theorem ggX9_add_X9_in : GoodIn wsX9_add wsX9_in := goodIn_r _ [5] (by decide +kernel) (by decide +kernel)
set_option maxRecDepth 20000 in
theorem gX9_add_X9_in : GoodIn wsX9_add (va_wsS RX9 48 yX9_in wsX9_in) := goodIn_app (goodIn_of _ (by decide +kernel)) ggX9_add_X9_in
set_option maxRecDepth 20000 in
theorem ggX9_add_X9_record : GoodIn wsX9_add wsX9_record := goodIn_r _ [9, 10, 11, 1, 16, 17, 18, 19, 20, 21, 22, 23, 24, 25, 26, 27, 28, 29, 30, 31, 32, 33] (by decide +kernel) (by decide +kernel)
set_option maxRecDepth 20000 in
theorem gX9_add_X9_record : GoodIn wsX9_add (wsV RX9 80 RX9 yX9_record wsX9_record) := goodIn_app (goodIn_of _ (by decide +kernel)) ggX9_add_X9_record
set_option maxRecDepth 20000 in
theorem ggX9_add_X9_write : GoodIn wsX9_add wsX9_write := goodIn_r _ [15, 1, 16, 17, 18, 19, 20, 21, 22, 23, 24, 25, 26, 27, 28, 29, 30, 31, 32, 33] (by decide +kernel) (by decide +kernel)
set_option maxRecDepth 20000 in
theorem gX9_add_X9_write : GoodIn wsX9_add (wsV RX9 83 RX9 yX9_write wsX9_write) := goodIn_app (goodIn_of _ (by decide +kernel)) ggX9_add_X9_write
theorem dX9_add_0 : decode cX9_add 0 = .ok (.iload_n 1, 1) := by decide +kernel
theorem dX9_add_1 : decode cX9_add 1 = .ok (.iconst 0, 1) := by decide +kernel
theorem dX9_add_2 : decode cX9_add 2 = .ok (.iconst 5, 1) := by decide +kernel
theorem dX9_add_3 : decode cX9_add 3 = .ok (.invokestatic 48, 3) := by decide +kernel
theorem dX9_add_6 : decode cX9_add 6 = .ok (.ifCond .ne 5, 3) := by decide +kernel
theorem dX9_add_9 : decode cX9_add 9 = .ok (.iconst (-1), 1) := by decide +kernel
theorem dX9_add_10 : decode cX9_add 10 = .ok (.ireturn, 1) := by decide +kernel
theorem dX9_add_11 : decode cX9_add 11 = .ok (.iload_n 2, 1) := by decide +kernel
theorem dX9_add_12 : decode cX9_add 12 = .ok (.iconst 0, 1) := by decide +kernel
theorem dX9_add_13 : decode cX9_add 13 = .ok (.sipush 9999, 3) := by decide +kernel
theorem dX9_add_16 : decode cX9_add 16 = .ok (.invokestatic 48, 3) := by decide +kernel
theorem dX9_add_19 : decode cX9_add 19 = .ok (.ifCond .eq 25, 3) := by decide +kernel
theorem dX9_add_22 : decode cX9_add 22 = .ok (.iload_n 3, 1) := by decide +kernel
theorem dX9_add_23 : decode cX9_add 23 = .ok (.iconst 1, 1) := by decide +kernel
theorem dX9_add_24 : decode cX9_add 24 = .ok (.sipush 999, 3) := by decide +kernel
theorem dX9_add_27 : decode cX9_add 27 = .ok (.invokestatic 48, 3) := by decide +kernel
theorem dX9_add_30 : decode cX9_add 30 = .ok (.ifCond .eq 14, 3) := by decide +kernel
theorem dX9_add_33 : decode cX9_add 33 = .ok (.iload 4, 2) := by decide +kernel
theorem dX9_add_35 : decode cX9_add 35 = .ok (.iconst 0, 1) := by decide +kernel
theorem dX9_add_36 : decode cX9_add 36 = .ok (.bipush 100, 2) := by decide +kernel
theorem dX9_add_38 : decode cX9_add 38 = .ok (.invokestatic 48, 3) := by decide +kernel
theorem dX9_add_41 : decode cX9_add 41 = .ok (.ifCond .ne 6, 3) := by decide +kernel
theorem dX9_add_44 : decode cX9_add 44 = .ok (.bipush (-2), 2) := by decide +kernel
theorem dX9_add_46 : decode cX9_add 46 = .ok (.ireturn, 1) := by decide +kernel
theorem dX9_add_47 : decode cX9_add 47 = .ok (.aload_n 0, 1) := by decide +kernel
theorem dX9_add_48 : decode cX9_add 48 = .ok (.getfield 7, 3) := by decide +kernel
theorem dX9_add_51 : decode cX9_add 51 = .ok (.iconst 0, 1) := by decide +kernel
theorem dX9_add_52 : decode cX9_add 52 = .ok (.iaload, 1) := by decide +kernel
theorem dX9_add_53 : decode cX9_add 53 = .ok (.bipush 40, 2) := by decide +kernel
theorem dX9_add_55 : decode cX9_add 55 = .ok (.if_icmp .ne 6, 3) := by decide +kernel
theorem dX9_add_58 : decode cX9_add 58 = .ok (.bipush (-3), 2) := by decide +kernel
theorem dX9_add_60 : decode cX9_add 60 = .ok (.ireturn, 1) := by decide +kernel
theorem dX9_add_61 : decode cX9_add 61 = .ok (.aload_n 0, 1) := by decide +kernel
theorem dX9_add_62 : decode cX9_add 62 = .ok (.invokevirtual 80, 3) := by decide +kernel
theorem dX9_add_65 : decode cX9_add 65 = .ok (.aload_n 0, 1) := by decide +kernel
theorem dX9_add_66 : decode cX9_add 66 = .ok (.iload_n 1, 1) := by decide +kernel
theorem dX9_add_67 : decode cX9_add 67 = .ok (.iload_n 2, 1) := by decide +kernel
theorem dX9_add_68 : decode cX9_add 68 = .ok (.iload_n 3, 1) := by decide +kernel
theorem dX9_add_69 : decode cX9_add 69 = .ok (.iload 4, 2) := by decide +kernel
theorem dX9_add_71 : decode cX9_add 71 = .ok (.iconst 0, 1) := by decide +kernel
theorem dX9_add_72 : decode cX9_add 72 = .ok (.invokevirtual 83, 3) := by decide +kernel
theorem dX9_add_75 : decode cX9_add 75 = .ok (.aload_n 0, 1) := by decide +kernel
theorem dX9_add_76 : decode cX9_add 76 = .ok (.getfield 7, 3) := by decide +kernel
theorem dX9_add_79 : decode cX9_add 79 = .ok (.iconst 0, 1) := by decide +kernel
theorem dX9_add_80 : decode cX9_add 80 = .ok (.iaload, 1) := by decide +kernel
theorem dX9_add_81 : decode cX9_add 81 = .ok (.iconst 1, 1) := by decide +kernel
theorem dX9_add_82 : decode cX9_add 82 = .ok (.isub, 1) := by decide +kernel
theorem dX9_add_83 : decode cX9_add 83 = .ok (.ireturn, 1) := by decide +kernel
theorem dX9_isSign_0 : decode cX9_isSign 0 = .ok (.iload_n 1, 1) := by decide +kernel
theorem dX9_isSign_1 : decode cX9_isSign 1 = .ok (.aload_n 0, 1) := by decide +kernel
theorem dX9_isSign_2 : decode cX9_isSign 2 = .ok (.getfield 87, 3) := by decide +kernel
theorem dX9_isSign_5 : decode cX9_isSign 5 = .ok (.if_icmp .ge 27, 3) := by decide +kernel
theorem dX9_isSign_8 : decode cX9_isSign 8 = .ok (.aload_n 0, 1) := by decide +kernel
theorem dX9_isSign_9 : decode cX9_isSign 9 = .ok (.getfield 40, 3) := by decide +kernel
theorem dX9_isSign_12 : decode cX9_isSign 12 = .ok (.iload_n 1, 1) := by decide +kernel
theorem dX9_isSign_13 : decode cX9_isSign 13 = .ok (.caload, 1) := by decide +kernel
theorem dX9_isSign_14 : decode cX9_isSign 14 = .ok (.iload_n 2, 1) := by decide +kernel
theorem dX9_isSign_15 : decode cX9_isSign 15 = .ok (.if_icmp .lt 17, 3) := by decide +kernel
theorem dX9_isSign_18 : decode cX9_isSign 18 = .ok (.aload_n 0, 1) := by decide +kernel
theorem dX9_isSign_19 : decode cX9_isSign 19 = .ok (.getfield 40, 3) := by decide +kernel
theorem dX9_isSign_22 : decode cX9_isSign 22 = .ok (.iload_n 1, 1) := by decide +kernel
theorem dX9_isSign_23 : decode cX9_isSign 23 = .ok (.caload, 1) := by decide +kernel
theorem dX9_isSign_24 : decode cX9_isSign 24 = .ok (.iload_n 3, 1) := by decide +kernel
theorem dX9_isSign_25 : decode cX9_isSign 25 = .ok (.if_icmp .gt 7, 3) := by decide +kernel
theorem dX9_isSign_28 : decode cX9_isSign 28 = .ok (.iconst 1, 1) := by decide +kernel
theorem dX9_isSign_29 : decode cX9_isSign 29 = .ok (.goto 4, 3) := by decide +kernel
theorem dX9_isSign_32 : decode cX9_isSign 32 = .ok (.iconst 0, 1) := by decide +kernel
theorem dX9_isSign_33 : decode cX9_isSign 33 = .ok (.ireturn, 1) := by decide +kernel
set_option maxRecDepth 20000 in
theorem ggX9_number_X9_isSign : GoodIn wsX9_number wsX9_isSign := goodIn_r _ [7, 8, 2, 9, 10, 11, 12, 13, 14, 15, 16, 17, 18, 19, 20, 21, 22, 23, 24, 25, 26] (by decide +kernel) (by decide +kernel)
set_option maxRecDepth 20000 in
theorem gX9_number_X9_isSign : GoodIn wsX9_number (wsV RX9 93 RX9 yX9_isSign wsX9_isSign) := goodIn_app (goodIn_of _ (by decide +kernel)) ggX9_number_X9_isSign
theorem dX9_number_0 : decode cX9_number 0 = .ok (.aload_n 0, 1) := by decide +kernel
theorem dX9_number_1 : decode cX9_number 1 = .ok (.aload_n 0, 1) := by decide +kernel
theorem dX9_number_2 : decode cX9_number 2 = .ok (.getfield 90, 3) := by decide +kernel
theorem dX9_number_5 : decode cX9_number 5 = .ok (.iload_n 1, 1) := by decide +kernel
theorem dX9_number_6 : decode cX9_number 6 = .ok (.ifCond .ne 8, 3) := by decide +kernel
theorem dX9_number_9 : decode cX9_number 9 = .ok (.bipush 48, 2) := by decide +kernel
theorem dX9_number_11 : decode cX9_number 11 = .ok (.goto 5, 3) := by decide +kernel
theorem dX9_number_14 : decode cX9_number 14 = .ok (.bipush 49, 2) := by decide +kernel
theorem dX9_number_16 : decode cX9_number 16 = .ok (.bipush 57, 2) := by decide +kernel
theorem dX9_number_18 : decode cX9_number 18 = .ok (.invokevirtual 93, 3) := by decide +kernel
theorem dX9_number_21 : decode cX9_number 21 = .ok (.ifCond .ne 5, 3) := by decide +kernel
theorem dX9_number_24 : decode cX9_number 24 = .ok (.iconst (-1), 1) := by decide +kernel
theorem dX9_number_25 : decode cX9_number 25 = .ok (.ireturn, 1) := by decide +kernel
theorem dX9_number_26 : decode cX9_number 26 = .ok (.aload_n 0, 1) := by decide +kernel
theorem dX9_number_27 : decode cX9_number 27 = .ok (.getfield 40, 3) := by decide +kernel
theorem dX9_number_30 : decode cX9_number 30 = .ok (.aload_n 0, 1) := by decide +kernel
theorem dX9_number_31 : decode cX9_number 31 = .ok (.getfield 90, 3) := by decide +kernel
theorem dX9_number_34 : decode cX9_number 34 = .ok (.caload, 1) := by decide +kernel
theorem dX9_number_35 : decode cX9_number 35 = .ok (.bipush 48, 2) := by decide +kernel
theorem dX9_number_37 : decode cX9_number 37 = .ok (.isub, 1) := by decide +kernel
theorem dX9_number_38 : decode cX9_number 38 = .ok (.istore_n 3, 1) := by decide +kernel
theorem dX9_number_39 : decode cX9_number 39 = .ok (.aload_n 0, 1) := by decide +kernel
theorem dX9_number_40 : decode cX9_number 40 = .ok (.dup, 1) := by decide +kernel
theorem dX9_number_41 : decode cX9_number 41 = .ok (.getfield 90, 3) := by decide +kernel
theorem dX9_number_44 : decode cX9_number 44 = .ok (.iconst 1, 1) := by decide +kernel
theorem dX9_number_45 : decode cX9_number 45 = .ok (.iadd, 1) := by decide +kernel
theorem dX9_number_46 : decode cX9_number 46 = .ok (.putfield 90, 3) := by decide +kernel
theorem dX9_number_49 : decode cX9_number 49 = .ok (.iload_n 3, 1) := by decide +kernel
theorem dX9_number_50 : decode cX9_number 50 = .ok (.ifCond .le 70, 3) := by decide +kernel
theorem dX9_number_53 : decode cX9_number 53 = .ok (.aload_n 0, 1) := by decide +kernel
theorem dX9_number_54 : decode cX9_number 54 = .ok (.aload_n 0, 1) := by decide +kernel
theorem dX9_number_55 : decode cX9_number 55 = .ok (.getfield 90, 3) := by decide +kernel
theorem dX9_number_58 : decode cX9_number 58 = .ok (.bipush 48, 2) := by decide +kernel
theorem dX9_number_60 : decode cX9_number 60 = .ok (.bipush 57, 2) := by decide +kernel
theorem dX9_number_62 : decode cX9_number 62 = .ok (.invokevirtual 93, 3) := by decide +kernel
theorem dX9_number_65 : decode cX9_number 65 = .ok (.ifCond .eq 55, 3) := by decide +kernel
theorem dX9_number_68 : decode cX9_number 68 = .ok (.bipush 10, 2) := by decide +kernel
theorem dX9_number_70 : decode cX9_number 70 = .ok (.iload_n 3, 1) := by decide +kernel
theorem dX9_number_71 : decode cX9_number 71 = .ok (.imul, 1) := by decide +kernel
theorem dX9_number_72 : decode cX9_number 72 = .ok (.aload_n 0, 1) := by decide +kernel
theorem dX9_number_73 : decode cX9_number 73 = .ok (.getfield 40, 3) := by decide +kernel
theorem dX9_number_76 : decode cX9_number 76 = .ok (.aload_n 0, 1) := by decide +kernel
theorem dX9_number_77 : decode cX9_number 77 = .ok (.getfield 90, 3) := by decide +kernel
theorem dX9_number_80 : decode cX9_number 80 = .ok (.caload, 1) := by decide +kernel
theorem dX9_number_81 : decode cX9_number 81 = .ok (.iadd, 1) := by decide +kernel
theorem dX9_number_82 : decode cX9_number 82 = .ok (.bipush 48, 2) := by decide +kernel
theorem dX9_number_84 : decode cX9_number 84 = .ok (.isub, 1) := by decide +kernel
theorem dX9_number_85 : decode cX9_number 85 = .ok (.iload_n 2, 1) := by decide +kernel
theorem dX9_number_86 : decode cX9_number 86 = .ok (.if_icmp .gt 34, 3) := by decide +kernel
theorem dX9_number_89 : decode cX9_number 89 = .ok (.bipush 10, 2) := by decide +kernel
theorem dX9_number_91 : decode cX9_number 91 = .ok (.iload_n 3, 1) := by decide +kernel
theorem dX9_number_92 : decode cX9_number 92 = .ok (.imul, 1) := by decide +kernel
theorem dX9_number_93 : decode cX9_number 93 = .ok (.aload_n 0, 1) := by decide +kernel
theorem dX9_number_94 : decode cX9_number 94 = .ok (.getfield 40, 3) := by decide +kernel
theorem dX9_number_97 : decode cX9_number 97 = .ok (.aload_n 0, 1) := by decide +kernel
theorem dX9_number_98 : decode cX9_number 98 = .ok (.getfield 90, 3) := by decide +kernel
theorem dX9_number_101 : decode cX9_number 101 = .ok (.caload, 1) := by decide +kernel
theorem dX9_number_102 : decode cX9_number 102 = .ok (.iadd, 1) := by decide +kernel
theorem dX9_number_103 : decode cX9_number 103 = .ok (.bipush 48, 2) := by decide +kernel
theorem dX9_number_105 : decode cX9_number 105 = .ok (.isub, 1) := by decide +kernel
theorem dX9_number_106 : decode cX9_number 106 = .ok (.istore_n 3, 1) := by decide +kernel
theorem dX9_number_107 : decode cX9_number 107 = .ok (.aload_n 0, 1) := by decide +kernel
theorem dX9_number_108 : decode cX9_number 108 = .ok (.dup, 1) := by decide +kernel
theorem dX9_number_109 : decode cX9_number 109 = .ok (.getfield 90, 3) := by decide +kernel
theorem dX9_number_112 : decode cX9_number 112 = .ok (.iconst 1, 1) := by decide +kernel
theorem dX9_number_113 : decode cX9_number 113 = .ok (.iadd, 1) := by decide +kernel
theorem dX9_number_114 : decode cX9_number 114 = .ok (.putfield 90, 3) := by decide +kernel
theorem dX9_number_117 : decode cX9_number 117 = .ok (.goto (-68), 3) := by decide +kernel
theorem dX9_number_120 : decode cX9_number 120 = .ok (.iload_n 3, 1) := by decide +kernel
theorem dX9_number_121 : decode cX9_number 121 = .ok (.ireturn, 1) := by decide +kernel
set_option maxRecDepth 20000 in
theorem ggX9_comma_X9_isSign : GoodIn wsX9_comma wsX9_isSign := goodIn_r _ [6, 7, 8, 9, 10, 11, 12, 13, 14, 15, 16, 17, 18, 19, 20, 21, 22, 23, 24, 25, 26] (by decide +kernel) (by decide +kernel)
set_option maxRecDepth 20000 in
theorem gX9_comma_X9_isSign : GoodIn wsX9_comma (wsV RX9 93 RX9 yX9_isSign wsX9_isSign) := goodIn_app (goodIn_of _ (by decide +kernel)) ggX9_comma_X9_isSign
theorem dX9_comma_0 : decode cX9_comma 0 = .ok (.aload_n 0, 1) := by decide +kernel
theorem dX9_comma_1 : decode cX9_comma 1 = .ok (.aload_n 0, 1) := by decide +kernel
theorem dX9_comma_2 : decode cX9_comma 2 = .ok (.getfield 90, 3) := by decide +kernel
theorem dX9_comma_5 : decode cX9_comma 5 = .ok (.bipush 44, 2) := by decide +kernel
theorem dX9_comma_7 : decode cX9_comma 7 = .ok (.bipush 44, 2) := by decide +kernel
theorem dX9_comma_9 : decode cX9_comma 9 = .ok (.invokevirtual 93, 3) := by decide +kernel
theorem dX9_comma_12 : decode cX9_comma 12 = .ok (.istore_n 1, 1) := by decide +kernel
theorem dX9_comma_13 : decode cX9_comma 13 = .ok (.aload_n 0, 1) := by decide +kernel
theorem dX9_comma_14 : decode cX9_comma 14 = .ok (.dup, 1) := by decide +kernel
theorem dX9_comma_15 : decode cX9_comma 15 = .ok (.getfield 90, 3) := by decide +kernel
theorem dX9_comma_18 : decode cX9_comma 18 = .ok (.iload_n 1, 1) := by decide +kernel
theorem dX9_comma_19 : decode cX9_comma 19 = .ok (.ifCond .eq 7, 3) := by decide +kernel
theorem dX9_comma_22 : decode cX9_comma 22 = .ok (.iconst 1, 1) := by decide +kernel
theorem dX9_comma_23 : decode cX9_comma 23 = .ok (.goto 4, 3) := by decide +kernel
theorem dX9_comma_26 : decode cX9_comma 26 = .ok (.iconst 0, 1) := by decide +kernel
theorem dX9_comma_27 : decode cX9_comma 27 = .ok (.iadd, 1) := by decide +kernel
theorem dX9_comma_28 : decode cX9_comma 28 = .ok (.putfield 90, 3) := by decide +kernel
theorem dX9_comma_31 : decode cX9_comma 31 = .ok (.iload_n 1, 1) := by decide +kernel
theorem dX9_comma_32 : decode cX9_comma 32 = .ok (.ireturn, 1) := by decide +kernel
set_option maxRecDepth 20000 in
theorem ggX9_readsCard_X9_isSign : GoodIn wsX9_readsCard wsX9_isSign := goodIn_r _ [9, 10, 4, 19, 20, 21, 22, 23, 24, 25, 26, 27, 28, 29, 30, 31, 32, 33, 34, 35, 36] (by decide +kernel) (by decide +kernel)
set_option maxRecDepth 20000 in
theorem gX9_readsCard_X9_isSign : GoodIn wsX9_readsCard (wsV RX9 93 RX9 yX9_isSign wsX9_isSign) := goodIn_app (goodIn_of _ (by decide +kernel)) ggX9_readsCard_X9_isSign
set_option maxRecDepth 20000 in
theorem ggX9_readsCard_X9_number : GoodIn wsX9_readsCard wsX9_number := goodIn_r _ [14, 2, 4, 5, 6, 7, 8, 9, 10, 19, 20, 21, 22, 23, 24, 25, 26, 27, 28, 29, 30, 31, 32, 33, 34, 35, 36] (by decide +kernel) (by decide +kernel)
set_option maxRecDepth 20000 in
theorem gX9_readsCard_X9_number : GoodIn wsX9_readsCard (wsV RX9 100 RX9 yX9_number wsX9_number) := goodIn_app (goodIn_of _ (by decide +kernel)) ggX9_readsCard_X9_number
set_option maxRecDepth 20000 in
theorem ggX9_readsCard_X9_comma : GoodIn wsX9_readsCard wsX9_comma := goodIn_r _ [18, 2, 5, 6, 7, 8, 9, 10, 4, 19, 20, 21, 22, 23, 24, 25, 26, 27, 28, 29, 30, 31, 32, 33, 34, 35, 36] (by decide +kernel) (by decide +kernel)
set_option maxRecDepth 20000 in
theorem gX9_readsCard_X9_comma : GoodIn wsX9_readsCard (wsV RX9 103 RX9 yX9_comma wsX9_comma) := goodIn_app (goodIn_of _ (by decide +kernel)) ggX9_readsCard_X9_comma
theorem dX9_readsCard_0 : decode cX9_readsCard 0 = .ok (.iconst 5, 1) := by decide +kernel
theorem dX9_readsCard_1 : decode cX9_readsCard 1 = .ok (.aload_n 0, 1) := by decide +kernel
theorem dX9_readsCard_2 : decode cX9_readsCard 2 = .ok (.getfield 97, 3) := by decide +kernel
theorem dX9_readsCard_5 : decode cX9_readsCard 5 = .ok (.imul, 1) := by decide +kernel
theorem dX9_readsCard_6 : decode cX9_readsCard 6 = .ok (.istore_n 1, 1) := by decide +kernel
theorem dX9_readsCard_7 : decode cX9_readsCard 7 = .ok (.aload_n 0, 1) := by decide +kernel
theorem dX9_readsCard_8 : decode cX9_readsCard 8 = .ok (.aload_n 0, 1) := by decide +kernel
theorem dX9_readsCard_9 : decode cX9_readsCard 9 = .ok (.getfield 90, 3) := by decide +kernel
theorem dX9_readsCard_12 : decode cX9_readsCard 12 = .ok (.bipush 65, 2) := by decide +kernel
theorem dX9_readsCard_14 : decode cX9_readsCard 14 = .ok (.bipush 70, 2) := by decide +kernel
theorem dX9_readsCard_16 : decode cX9_readsCard 16 = .ok (.invokevirtual 93, 3) := by decide +kernel
theorem dX9_readsCard_19 : decode cX9_readsCard 19 = .ok (.ifCond .ne 5, 3) := by decide +kernel
theorem dX9_readsCard_22 : decode cX9_readsCard 22 = .ok (.iconst 0, 1) := by decide +kernel
theorem dX9_readsCard_23 : decode cX9_readsCard 23 = .ok (.ireturn, 1) := by decide +kernel
theorem dX9_readsCard_24 : decode cX9_readsCard 24 = .ok (.aload_n 0, 1) := by decide +kernel
theorem dX9_readsCard_25 : decode cX9_readsCard 25 = .ok (.getfield 37, 3) := by decide +kernel
theorem dX9_readsCard_28 : decode cX9_readsCard 28 = .ok (.iload_n 1, 1) := by decide +kernel
theorem dX9_readsCard_29 : decode cX9_readsCard 29 = .ok (.aload_n 0, 1) := by decide +kernel
theorem dX9_readsCard_30 : decode cX9_readsCard 30 = .ok (.getfield 40, 3) := by decide +kernel
theorem dX9_readsCard_33 : decode cX9_readsCard 33 = .ok (.aload_n 0, 1) := by decide +kernel
theorem dX9_readsCard_34 : decode cX9_readsCard 34 = .ok (.getfield 90, 3) := by decide +kernel
theorem dX9_readsCard_37 : decode cX9_readsCard 37 = .ok (.caload, 1) := by decide +kernel
theorem dX9_readsCard_38 : decode cX9_readsCard 38 = .ok (.bipush 65, 2) := by decide +kernel
theorem dX9_readsCard_40 : decode cX9_readsCard 40 = .ok (.isub, 1) := by decide +kernel
theorem dX9_readsCard_41 : decode cX9_readsCard 41 = .ok (.iastore, 1) := by decide +kernel
theorem dX9_readsCard_42 : decode cX9_readsCard 42 = .ok (.aload_n 0, 1) := by decide +kernel
theorem dX9_readsCard_43 : decode cX9_readsCard 43 = .ok (.dup, 1) := by decide +kernel
theorem dX9_readsCard_44 : decode cX9_readsCard 44 = .ok (.getfield 90, 3) := by decide +kernel
theorem dX9_readsCard_47 : decode cX9_readsCard 47 = .ok (.iconst 1, 1) := by decide +kernel
theorem dX9_readsCard_48 : decode cX9_readsCard 48 = .ok (.iadd, 1) := by decide +kernel
theorem dX9_readsCard_49 : decode cX9_readsCard 49 = .ok (.putfield 90, 3) := by decide +kernel
theorem dX9_readsCard_52 : decode cX9_readsCard 52 = .ok (.aload_n 0, 1) := by decide +kernel
theorem dX9_readsCard_53 : decode cX9_readsCard 53 = .ok (.getfield 37, 3) := by decide +kernel
theorem dX9_readsCard_56 : decode cX9_readsCard 56 = .ok (.iload_n 1, 1) := by decide +kernel
theorem dX9_readsCard_57 : decode cX9_readsCard 57 = .ok (.iconst 1, 1) := by decide +kernel
theorem dX9_readsCard_58 : decode cX9_readsCard 58 = .ok (.iadd, 1) := by decide +kernel
theorem dX9_readsCard_59 : decode cX9_readsCard 59 = .ok (.aload_n 0, 1) := by decide +kernel
theorem dX9_readsCard_60 : decode cX9_readsCard 60 = .ok (.iconst 0, 1) := by decide +kernel
theorem dX9_readsCard_61 : decode cX9_readsCard 61 = .ok (.sipush 9999, 3) := by decide +kernel
theorem dX9_readsCard_64 : decode cX9_readsCard 64 = .ok (.invokevirtual 100, 3) := by decide +kernel
theorem dX9_readsCard_67 : decode cX9_readsCard 67 = .ok (.iastore, 1) := by decide +kernel
theorem dX9_readsCard_68 : decode cX9_readsCard 68 = .ok (.aload_n 0, 1) := by decide +kernel
theorem dX9_readsCard_69 : decode cX9_readsCard 69 = .ok (.getfield 37, 3) := by decide +kernel
theorem dX9_readsCard_72 : decode cX9_readsCard 72 = .ok (.iload_n 1, 1) := by decide +kernel
theorem dX9_readsCard_73 : decode cX9_readsCard 73 = .ok (.iconst 1, 1) := by decide +kernel
theorem dX9_readsCard_74 : decode cX9_readsCard 74 = .ok (.iadd, 1) := by decide +kernel
theorem dX9_readsCard_75 : decode cX9_readsCard 75 = .ok (.iaload, 1) := by decide +kernel
theorem dX9_readsCard_76 : decode cX9_readsCard 76 = .ok (.ifCond .lt 10, 3) := by decide +kernel
theorem dX9_readsCard_79 : decode cX9_readsCard 79 = .ok (.aload_n 0, 1) := by decide +kernel
theorem dX9_readsCard_80 : decode cX9_readsCard 80 = .ok (.invokevirtual 103, 3) := by decide +kernel
theorem dX9_readsCard_83 : decode cX9_readsCard 83 = .ok (.ifCond .ne 5, 3) := by decide +kernel
theorem dX9_readsCard_86 : decode cX9_readsCard 86 = .ok (.iconst 0, 1) := by decide +kernel
theorem dX9_readsCard_87 : decode cX9_readsCard 87 = .ok (.ireturn, 1) := by decide +kernel
theorem dX9_readsCard_88 : decode cX9_readsCard 88 = .ok (.aload_n 0, 1) := by decide +kernel
theorem dX9_readsCard_89 : decode cX9_readsCard 89 = .ok (.getfield 37, 3) := by decide +kernel
theorem dX9_readsCard_92 : decode cX9_readsCard 92 = .ok (.iload_n 1, 1) := by decide +kernel
theorem dX9_readsCard_93 : decode cX9_readsCard 93 = .ok (.iconst 2, 1) := by decide +kernel
theorem dX9_readsCard_94 : decode cX9_readsCard 94 = .ok (.iadd, 1) := by decide +kernel
theorem dX9_readsCard_95 : decode cX9_readsCard 95 = .ok (.aload_n 0, 1) := by decide +kernel
theorem dX9_readsCard_96 : decode cX9_readsCard 96 = .ok (.iconst 1, 1) := by decide +kernel
theorem dX9_readsCard_97 : decode cX9_readsCard 97 = .ok (.sipush 999, 3) := by decide +kernel
theorem dX9_readsCard_100 : decode cX9_readsCard 100 = .ok (.invokevirtual 100, 3) := by decide +kernel
theorem dX9_readsCard_103 : decode cX9_readsCard 103 = .ok (.iastore, 1) := by decide +kernel
theorem dX9_readsCard_104 : decode cX9_readsCard 104 = .ok (.aload_n 0, 1) := by decide +kernel
theorem dX9_readsCard_105 : decode cX9_readsCard 105 = .ok (.getfield 37, 3) := by decide +kernel
theorem dX9_readsCard_108 : decode cX9_readsCard 108 = .ok (.iload_n 1, 1) := by decide +kernel
theorem dX9_readsCard_109 : decode cX9_readsCard 109 = .ok (.iconst 2, 1) := by decide +kernel
theorem dX9_readsCard_110 : decode cX9_readsCard 110 = .ok (.iadd, 1) := by decide +kernel
theorem dX9_readsCard_111 : decode cX9_readsCard 111 = .ok (.iaload, 1) := by decide +kernel
theorem dX9_readsCard_112 : decode cX9_readsCard 112 = .ok (.ifCond .lt 10, 3) := by decide +kernel
theorem dX9_readsCard_115 : decode cX9_readsCard 115 = .ok (.aload_n 0, 1) := by decide +kernel
theorem dX9_readsCard_116 : decode cX9_readsCard 116 = .ok (.invokevirtual 103, 3) := by decide +kernel
theorem dX9_readsCard_119 : decode cX9_readsCard 119 = .ok (.ifCond .ne 5, 3) := by decide +kernel
theorem dX9_readsCard_122 : decode cX9_readsCard 122 = .ok (.iconst 0, 1) := by decide +kernel
theorem dX9_readsCard_123 : decode cX9_readsCard 123 = .ok (.ireturn, 1) := by decide +kernel
theorem dX9_readsCard_124 : decode cX9_readsCard 124 = .ok (.aload_n 0, 1) := by decide +kernel
theorem dX9_readsCard_125 : decode cX9_readsCard 125 = .ok (.getfield 37, 3) := by decide +kernel
theorem dX9_readsCard_128 : decode cX9_readsCard 128 = .ok (.iload_n 1, 1) := by decide +kernel
theorem dX9_readsCard_129 : decode cX9_readsCard 129 = .ok (.iconst 3, 1) := by decide +kernel
theorem dX9_readsCard_130 : decode cX9_readsCard 130 = .ok (.iadd, 1) := by decide +kernel
theorem dX9_readsCard_131 : decode cX9_readsCard 131 = .ok (.aload_n 0, 1) := by decide +kernel
theorem dX9_readsCard_132 : decode cX9_readsCard 132 = .ok (.iconst 0, 1) := by decide +kernel
theorem dX9_readsCard_133 : decode cX9_readsCard 133 = .ok (.bipush 100, 2) := by decide +kernel
theorem dX9_readsCard_135 : decode cX9_readsCard 135 = .ok (.invokevirtual 100, 3) := by decide +kernel
theorem dX9_readsCard_138 : decode cX9_readsCard 138 = .ok (.iastore, 1) := by decide +kernel
theorem dX9_readsCard_139 : decode cX9_readsCard 139 = .ok (.aload_n 0, 1) := by decide +kernel
theorem dX9_readsCard_140 : decode cX9_readsCard 140 = .ok (.getfield 37, 3) := by decide +kernel
theorem dX9_readsCard_143 : decode cX9_readsCard 143 = .ok (.iload_n 1, 1) := by decide +kernel
theorem dX9_readsCard_144 : decode cX9_readsCard 144 = .ok (.iconst 3, 1) := by decide +kernel
theorem dX9_readsCard_145 : decode cX9_readsCard 145 = .ok (.iadd, 1) := by decide +kernel
theorem dX9_readsCard_146 : decode cX9_readsCard 146 = .ok (.iaload, 1) := by decide +kernel
theorem dX9_readsCard_147 : decode cX9_readsCard 147 = .ok (.ifCond .ge 5, 3) := by decide +kernel
theorem dX9_readsCard_150 : decode cX9_readsCard 150 = .ok (.iconst 0, 1) := by decide +kernel
theorem dX9_readsCard_151 : decode cX9_readsCard 151 = .ok (.ireturn, 1) := by decide +kernel
theorem dX9_readsCard_152 : decode cX9_readsCard 152 = .ok (.aload_n 0, 1) := by decide +kernel
theorem dX9_readsCard_153 : decode cX9_readsCard 153 = .ok (.getfield 37, 3) := by decide +kernel
theorem dX9_readsCard_156 : decode cX9_readsCard 156 = .ok (.iload_n 1, 1) := by decide +kernel
theorem dX9_readsCard_157 : decode cX9_readsCard 157 = .ok (.iconst 4, 1) := by decide +kernel
theorem dX9_readsCard_158 : decode cX9_readsCard 158 = .ok (.iadd, 1) := by decide +kernel
theorem dX9_readsCard_159 : decode cX9_readsCard 159 = .ok (.aload_n 0, 1) := by decide +kernel
theorem dX9_readsCard_160 : decode cX9_readsCard 160 = .ok (.aload_n 0, 1) := by decide +kernel
theorem dX9_readsCard_161 : decode cX9_readsCard 161 = .ok (.getfield 90, 3) := by decide +kernel
theorem dX9_readsCard_164 : decode cX9_readsCard 164 = .ok (.bipush 42, 2) := by decide +kernel
theorem dX9_readsCard_166 : decode cX9_readsCard 166 = .ok (.bipush 42, 2) := by decide +kernel
theorem dX9_readsCard_168 : decode cX9_readsCard 168 = .ok (.invokevirtual 93, 3) := by decide +kernel
theorem dX9_readsCard_171 : decode cX9_readsCard 171 = .ok (.ifCond .eq 7, 3) := by decide +kernel
theorem dX9_readsCard_174 : decode cX9_readsCard 174 = .ok (.iconst 1, 1) := by decide +kernel
theorem dX9_readsCard_175 : decode cX9_readsCard 175 = .ok (.goto 4, 3) := by decide +kernel
theorem dX9_readsCard_178 : decode cX9_readsCard 178 = .ok (.iconst 0, 1) := by decide +kernel
theorem dX9_readsCard_179 : decode cX9_readsCard 179 = .ok (.iastore, 1) := by decide +kernel
theorem dX9_readsCard_180 : decode cX9_readsCard 180 = .ok (.aload_n 0, 1) := by decide +kernel
theorem dX9_readsCard_181 : decode cX9_readsCard 181 = .ok (.dup, 1) := by decide +kernel
theorem dX9_readsCard_182 : decode cX9_readsCard 182 = .ok (.getfield 90, 3) := by decide +kernel
theorem dX9_readsCard_185 : decode cX9_readsCard 185 = .ok (.aload_n 0, 1) := by decide +kernel
theorem dX9_readsCard_186 : decode cX9_readsCard 186 = .ok (.getfield 37, 3) := by decide +kernel
theorem dX9_readsCard_189 : decode cX9_readsCard 189 = .ok (.iload_n 1, 1) := by decide +kernel
theorem dX9_readsCard_190 : decode cX9_readsCard 190 = .ok (.iconst 4, 1) := by decide +kernel
theorem dX9_readsCard_191 : decode cX9_readsCard 191 = .ok (.iadd, 1) := by decide +kernel
theorem dX9_readsCard_192 : decode cX9_readsCard 192 = .ok (.iaload, 1) := by decide +kernel
theorem dX9_readsCard_193 : decode cX9_readsCard 193 = .ok (.iadd, 1) := by decide +kernel
theorem dX9_readsCard_194 : decode cX9_readsCard 194 = .ok (.putfield 90, 3) := by decide +kernel
theorem dX9_readsCard_197 : decode cX9_readsCard 197 = .ok (.aload_n 0, 1) := by decide +kernel
theorem dX9_readsCard_198 : decode cX9_readsCard 198 = .ok (.dup, 1) := by decide +kernel
theorem dX9_readsCard_199 : decode cX9_readsCard 199 = .ok (.getfield 97, 3) := by decide +kernel
theorem dX9_readsCard_202 : decode cX9_readsCard 202 = .ok (.iconst 1, 1) := by decide +kernel
theorem dX9_readsCard_203 : decode cX9_readsCard 203 = .ok (.iadd, 1) := by decide +kernel
theorem dX9_readsCard_204 : decode cX9_readsCard 204 = .ok (.putfield 97, 3) := by decide +kernel
theorem dX9_readsCard_207 : decode cX9_readsCard 207 = .ok (.iconst 1, 1) := by decide +kernel
theorem dX9_readsCard_208 : decode cX9_readsCard 208 = .ok (.ireturn, 1) := by decide +kernel
set_option maxRecDepth 20000 in
theorem ggX9_faultOf_X9_readsCard : GoodIn wsX9_faultOf wsX9_readsCard := goodIn_r _ [9, 2, 1, 10, 4, 11, 12, 13, 8, 14, 3, 15, 16, 17, 18, 19, 20, 21, 22, 23, 24, 25, 26, 27, 28, 29, 30, 31, 32, 33, 34, 35, 36, 37, 38, 39, 40] (by decide +kernel) (by decide +kernel)
set_option maxRecDepth 20000 in
theorem gX9_faultOf_X9_readsCard : GoodIn wsX9_faultOf (wsV RX9 107 RX9 yX9_readsCard wsX9_readsCard) := goodIn_app (goodIn_of _ (by decide +kernel)) ggX9_faultOf_X9_readsCard
theorem dX9_faultOf_0 : decode cX9_faultOf 0 = .ok (.aload_n 0, 1) := by decide +kernel
theorem dX9_faultOf_1 : decode cX9_faultOf 1 = .ok (.iconst 0, 1) := by decide +kernel
theorem dX9_faultOf_2 : decode cX9_faultOf 2 = .ok (.putfield 90, 3) := by decide +kernel
theorem dX9_faultOf_5 : decode cX9_faultOf 5 = .ok (.aload_n 0, 1) := by decide +kernel
theorem dX9_faultOf_6 : decode cX9_faultOf 6 = .ok (.iconst 0, 1) := by decide +kernel
theorem dX9_faultOf_7 : decode cX9_faultOf 7 = .ok (.putfield 97, 3) := by decide +kernel
theorem dX9_faultOf_10 : decode cX9_faultOf 10 = .ok (.aload_n 0, 1) := by decide +kernel
theorem dX9_faultOf_11 : decode cX9_faultOf 11 = .ok (.invokevirtual 107, 3) := by decide +kernel
theorem dX9_faultOf_14 : decode cX9_faultOf 14 = .ok (.istore_n 1, 1) := by decide +kernel
theorem dX9_faultOf_15 : decode cX9_faultOf 15 = .ok (.iload_n 1, 1) := by decide +kernel
theorem dX9_faultOf_16 : decode cX9_faultOf 16 = .ok (.ifCond .eq 56, 3) := by decide +kernel
theorem dX9_faultOf_19 : decode cX9_faultOf 19 = .ok (.aload_n 0, 1) := by decide +kernel
theorem dX9_faultOf_20 : decode cX9_faultOf 20 = .ok (.getfield 90, 3) := by decide +kernel
theorem dX9_faultOf_23 : decode cX9_faultOf 23 = .ok (.aload_n 0, 1) := by decide +kernel
theorem dX9_faultOf_24 : decode cX9_faultOf 24 = .ok (.getfield 87, 3) := by decide +kernel
theorem dX9_faultOf_27 : decode cX9_faultOf 27 = .ok (.if_icmp .ge 45, 3) := by decide +kernel
theorem dX9_faultOf_30 : decode cX9_faultOf 30 = .ok (.aload_n 0, 1) := by decide +kernel
theorem dX9_faultOf_31 : decode cX9_faultOf 31 = .ok (.getfield 40, 3) := by decide +kernel
theorem dX9_faultOf_34 : decode cX9_faultOf 34 = .ok (.aload_n 0, 1) := by decide +kernel
theorem dX9_faultOf_35 : decode cX9_faultOf 35 = .ok (.getfield 90, 3) := by decide +kernel
theorem dX9_faultOf_38 : decode cX9_faultOf 38 = .ok (.caload, 1) := by decide +kernel
theorem dX9_faultOf_39 : decode cX9_faultOf 39 = .ok (.bipush 59, 2) := by decide +kernel
theorem dX9_faultOf_41 : decode cX9_faultOf 41 = .ok (.if_icmp .ne 7, 3) := by decide +kernel
theorem dX9_faultOf_44 : decode cX9_faultOf 44 = .ok (.iconst 1, 1) := by decide +kernel
theorem dX9_faultOf_45 : decode cX9_faultOf 45 = .ok (.goto 4, 3) := by decide +kernel
theorem dX9_faultOf_48 : decode cX9_faultOf 48 = .ok (.iconst 0, 1) := by decide +kernel
theorem dX9_faultOf_49 : decode cX9_faultOf 49 = .ok (.istore_n 1, 1) := by decide +kernel
theorem dX9_faultOf_50 : decode cX9_faultOf 50 = .ok (.iload_n 1, 1) := by decide +kernel
theorem dX9_faultOf_51 : decode cX9_faultOf 51 = .ok (.ifCond .eq (-36), 3) := by decide +kernel
theorem dX9_faultOf_54 : decode cX9_faultOf 54 = .ok (.aload_n 0, 1) := by decide +kernel
theorem dX9_faultOf_55 : decode cX9_faultOf 55 = .ok (.dup, 1) := by decide +kernel
theorem dX9_faultOf_56 : decode cX9_faultOf 56 = .ok (.getfield 90, 3) := by decide +kernel
theorem dX9_faultOf_59 : decode cX9_faultOf 59 = .ok (.iconst 1, 1) := by decide +kernel
theorem dX9_faultOf_60 : decode cX9_faultOf 60 = .ok (.iadd, 1) := by decide +kernel
theorem dX9_faultOf_61 : decode cX9_faultOf 61 = .ok (.putfield 90, 3) := by decide +kernel
theorem dX9_faultOf_64 : decode cX9_faultOf 64 = .ok (.aload_n 0, 1) := by decide +kernel
theorem dX9_faultOf_65 : decode cX9_faultOf 65 = .ok (.invokevirtual 107, 3) := by decide +kernel
theorem dX9_faultOf_68 : decode cX9_faultOf 68 = .ok (.istore_n 1, 1) := by decide +kernel
theorem dX9_faultOf_69 : decode cX9_faultOf 69 = .ok (.goto (-54), 3) := by decide +kernel
theorem dX9_faultOf_72 : decode cX9_faultOf 72 = .ok (.iload_n 1, 1) := by decide +kernel
theorem dX9_faultOf_73 : decode cX9_faultOf 73 = .ok (.ifCond .eq 7, 3) := by decide +kernel
theorem dX9_faultOf_76 : decode cX9_faultOf 76 = .ok (.iconst (-1), 1) := by decide +kernel
theorem dX9_faultOf_77 : decode cX9_faultOf 77 = .ok (.goto 7, 3) := by decide +kernel
theorem dX9_faultOf_80 : decode cX9_faultOf 80 = .ok (.aload_n 0, 1) := by decide +kernel
theorem dX9_faultOf_81 : decode cX9_faultOf 81 = .ok (.getfield 90, 3) := by decide +kernel
theorem dX9_faultOf_84 : decode cX9_faultOf 84 = .ok (.ireturn, 1) := by decide +kernel
set_option maxRecDepth 20000 in
theorem ggX9_addAll_X9_faultOf : GoodIn wsX9_addAll wsX9_faultOf := goodIn_r _ [8, 9, 2, 10, 11, 12, 13, 14, 7, 15, 3, 16, 17, 18, 19, 20, 21, 22, 23, 24, 25, 26, 27, 38, 39, 40, 41, 42, 43, 44, 45, 46, 47, 48, 49, 50, 51, 52, 53, 54, 55] (by decide +kernel) (by decide +kernel)
set_option maxRecDepth 20000 in
theorem gX9_addAll_X9_faultOf : GoodIn wsX9_addAll (wsV RX9 110 RX9 yX9_faultOf wsX9_faultOf) := goodIn_app (goodIn_of _ (by decide +kernel)) ggX9_addAll_X9_faultOf
set_option maxRecDepth 20000 in
theorem ggX9_addAll_X9_record : GoodIn wsX9_addAll wsX9_record := goodIn_r _ [31, 32, 33, 1, 38, 39, 40, 41, 42, 43, 44, 45, 46, 47, 48, 49, 50, 51, 52, 53, 54, 55] (by decide +kernel) (by decide +kernel)
set_option maxRecDepth 20000 in
theorem gX9_addAll_X9_record : GoodIn wsX9_addAll (wsV RX9 80 RX9 yX9_record wsX9_record) := goodIn_app (goodIn_of _ (by decide +kernel)) ggX9_addAll_X9_record
set_option maxRecDepth 20000 in
theorem ggX9_addAll_X9_write : GoodIn wsX9_addAll wsX9_write := goodIn_r _ [37, 1, 38, 39, 40, 41, 42, 43, 44, 45, 46, 47, 48, 49, 50, 51, 52, 53, 54, 55] (by decide +kernel) (by decide +kernel)
set_option maxRecDepth 20000 in
theorem gX9_addAll_X9_write : GoodIn wsX9_addAll (wsV RX9 83 RX9 yX9_write wsX9_write) := goodIn_app (goodIn_of _ (by decide +kernel)) ggX9_addAll_X9_write
theorem dX9_addAll_0 : decode cX9_addAll 0 = .ok (.aload_n 0, 1) := by decide +kernel
theorem dX9_addAll_1 : decode cX9_addAll 1 = .ok (.invokevirtual 110, 3) := by decide +kernel
theorem dX9_addAll_4 : decode cX9_addAll 4 = .ok (.istore_n 1, 1) := by decide +kernel
theorem dX9_addAll_5 : decode cX9_addAll 5 = .ok (.iload_n 1, 1) := by decide +kernel
theorem dX9_addAll_6 : decode cX9_addAll 6 = .ok (.ifCond .lt 8, 3) := by decide +kernel
theorem dX9_addAll_9 : decode cX9_addAll 9 = .ok (.bipush (-100), 2) := by decide +kernel
theorem dX9_addAll_11 : decode cX9_addAll 11 = .ok (.iload_n 1, 1) := by decide +kernel
theorem dX9_addAll_12 : decode cX9_addAll 12 = .ok (.isub, 1) := by decide +kernel
theorem dX9_addAll_13 : decode cX9_addAll 13 = .ok (.ireturn, 1) := by decide +kernel
theorem dX9_addAll_14 : decode cX9_addAll 14 = .ok (.aload_n 0, 1) := by decide +kernel
theorem dX9_addAll_15 : decode cX9_addAll 15 = .ok (.getfield 7, 3) := by decide +kernel
theorem dX9_addAll_18 : decode cX9_addAll 18 = .ok (.iconst 0, 1) := by decide +kernel
theorem dX9_addAll_19 : decode cX9_addAll 19 = .ok (.iaload, 1) := by decide +kernel
theorem dX9_addAll_20 : decode cX9_addAll 20 = .ok (.aload_n 0, 1) := by decide +kernel
theorem dX9_addAll_21 : decode cX9_addAll 21 = .ok (.getfield 97, 3) := by decide +kernel
theorem dX9_addAll_24 : decode cX9_addAll 24 = .ok (.iadd, 1) := by decide +kernel
theorem dX9_addAll_25 : decode cX9_addAll 25 = .ok (.bipush 40, 2) := by decide +kernel
theorem dX9_addAll_27 : decode cX9_addAll 27 = .ok (.if_icmp .le 6, 3) := by decide +kernel
theorem dX9_addAll_30 : decode cX9_addAll 30 = .ok (.bipush (-3), 2) := by decide +kernel
theorem dX9_addAll_32 : decode cX9_addAll 32 = .ok (.ireturn, 1) := by decide +kernel
theorem dX9_addAll_33 : decode cX9_addAll 33 = .ok (.aload_n 0, 1) := by decide +kernel
theorem dX9_addAll_34 : decode cX9_addAll 34 = .ok (.invokevirtual 80, 3) := by decide +kernel
theorem dX9_addAll_37 : decode cX9_addAll 37 = .ok (.iconst 0, 1) := by decide +kernel
theorem dX9_addAll_38 : decode cX9_addAll 38 = .ok (.istore_n 2, 1) := by decide +kernel
theorem dX9_addAll_39 : decode cX9_addAll 39 = .ok (.iload_n 2, 1) := by decide +kernel
theorem dX9_addAll_40 : decode cX9_addAll 40 = .ok (.aload_n 0, 1) := by decide +kernel
theorem dX9_addAll_41 : decode cX9_addAll 41 = .ok (.getfield 97, 3) := by decide +kernel
theorem dX9_addAll_44 : decode cX9_addAll 44 = .ok (.if_icmp .ge 61, 3) := by decide +kernel
theorem dX9_addAll_47 : decode cX9_addAll 47 = .ok (.aload_n 0, 1) := by decide +kernel
theorem dX9_addAll_48 : decode cX9_addAll 48 = .ok (.aload_n 0, 1) := by decide +kernel
theorem dX9_addAll_49 : decode cX9_addAll 49 = .ok (.getfield 37, 3) := by decide +kernel
theorem dX9_addAll_52 : decode cX9_addAll 52 = .ok (.iconst 5, 1) := by decide +kernel
theorem dX9_addAll_53 : decode cX9_addAll 53 = .ok (.iload_n 2, 1) := by decide +kernel
theorem dX9_addAll_54 : decode cX9_addAll 54 = .ok (.imul, 1) := by decide +kernel
theorem dX9_addAll_55 : decode cX9_addAll 55 = .ok (.iaload, 1) := by decide +kernel
theorem dX9_addAll_56 : decode cX9_addAll 56 = .ok (.aload_n 0, 1) := by decide +kernel
theorem dX9_addAll_57 : decode cX9_addAll 57 = .ok (.getfield 37, 3) := by decide +kernel
theorem dX9_addAll_60 : decode cX9_addAll 60 = .ok (.iconst 5, 1) := by decide +kernel
theorem dX9_addAll_61 : decode cX9_addAll 61 = .ok (.iload_n 2, 1) := by decide +kernel
theorem dX9_addAll_62 : decode cX9_addAll 62 = .ok (.imul, 1) := by decide +kernel
theorem dX9_addAll_63 : decode cX9_addAll 63 = .ok (.iconst 1, 1) := by decide +kernel
theorem dX9_addAll_64 : decode cX9_addAll 64 = .ok (.iadd, 1) := by decide +kernel
theorem dX9_addAll_65 : decode cX9_addAll 65 = .ok (.iaload, 1) := by decide +kernel
theorem dX9_addAll_66 : decode cX9_addAll 66 = .ok (.aload_n 0, 1) := by decide +kernel
theorem dX9_addAll_67 : decode cX9_addAll 67 = .ok (.getfield 37, 3) := by decide +kernel
theorem dX9_addAll_70 : decode cX9_addAll 70 = .ok (.iconst 5, 1) := by decide +kernel
theorem dX9_addAll_71 : decode cX9_addAll 71 = .ok (.iload_n 2, 1) := by decide +kernel
theorem dX9_addAll_72 : decode cX9_addAll 72 = .ok (.imul, 1) := by decide +kernel
theorem dX9_addAll_73 : decode cX9_addAll 73 = .ok (.iconst 2, 1) := by decide +kernel
theorem dX9_addAll_74 : decode cX9_addAll 74 = .ok (.iadd, 1) := by decide +kernel
theorem dX9_addAll_75 : decode cX9_addAll 75 = .ok (.iaload, 1) := by decide +kernel
theorem dX9_addAll_76 : decode cX9_addAll 76 = .ok (.aload_n 0, 1) := by decide +kernel
theorem dX9_addAll_77 : decode cX9_addAll 77 = .ok (.getfield 37, 3) := by decide +kernel
theorem dX9_addAll_80 : decode cX9_addAll 80 = .ok (.iconst 5, 1) := by decide +kernel
theorem dX9_addAll_81 : decode cX9_addAll 81 = .ok (.iload_n 2, 1) := by decide +kernel
theorem dX9_addAll_82 : decode cX9_addAll 82 = .ok (.imul, 1) := by decide +kernel
theorem dX9_addAll_83 : decode cX9_addAll 83 = .ok (.iconst 3, 1) := by decide +kernel
theorem dX9_addAll_84 : decode cX9_addAll 84 = .ok (.iadd, 1) := by decide +kernel
theorem dX9_addAll_85 : decode cX9_addAll 85 = .ok (.iaload, 1) := by decide +kernel
theorem dX9_addAll_86 : decode cX9_addAll 86 = .ok (.aload_n 0, 1) := by decide +kernel
theorem dX9_addAll_87 : decode cX9_addAll 87 = .ok (.getfield 37, 3) := by decide +kernel
theorem dX9_addAll_90 : decode cX9_addAll 90 = .ok (.iconst 5, 1) := by decide +kernel
theorem dX9_addAll_91 : decode cX9_addAll 91 = .ok (.iload_n 2, 1) := by decide +kernel
theorem dX9_addAll_92 : decode cX9_addAll 92 = .ok (.imul, 1) := by decide +kernel
theorem dX9_addAll_93 : decode cX9_addAll 93 = .ok (.iconst 4, 1) := by decide +kernel
theorem dX9_addAll_94 : decode cX9_addAll 94 = .ok (.iadd, 1) := by decide +kernel
theorem dX9_addAll_95 : decode cX9_addAll 95 = .ok (.iaload, 1) := by decide +kernel
theorem dX9_addAll_96 : decode cX9_addAll 96 = .ok (.invokevirtual 83, 3) := by decide +kernel
theorem dX9_addAll_99 : decode cX9_addAll 99 = .ok (.iinc 2 1, 3) := by decide +kernel
theorem dX9_addAll_102 : decode cX9_addAll 102 = .ok (.goto (-63), 3) := by decide +kernel
theorem dX9_addAll_105 : decode cX9_addAll 105 = .ok (.aload_n 0, 1) := by decide +kernel
theorem dX9_addAll_106 : decode cX9_addAll 106 = .ok (.getfield 97, 3) := by decide +kernel
theorem dX9_addAll_109 : decode cX9_addAll 109 = .ok (.ireturn, 1) := by decide +kernel
set_option maxRecDepth 20000 in
theorem ggX9_isValue_X9_in : GoodIn wsX9_isValue wsX9_in := goodIn_r _ [4] (by decide +kernel) (by decide +kernel)
set_option maxRecDepth 20000 in
theorem gX9_isValue_X9_in : GoodIn wsX9_isValue (va_wsS RX9 48 yX9_in wsX9_in) := goodIn_app (goodIn_of _ (by decide +kernel)) ggX9_isValue_X9_in
theorem dX9_isValue_0 : decode cX9_isValue 0 = .ok (.iload_n 0, 1) := by decide +kernel
theorem dX9_isValue_1 : decode cX9_isValue 1 = .ok (.ifCond .ne 14, 3) := by decide +kernel
theorem dX9_isValue_4 : decode cX9_isValue 4 = .ok (.iload_n 1, 1) := by decide +kernel
theorem dX9_isValue_5 : decode cX9_isValue 5 = .ok (.iconst 0, 1) := by decide +kernel
theorem dX9_isValue_6 : decode cX9_isValue 6 = .ok (.sipush 9999, 3) := by decide +kernel
theorem dX9_isValue_9 : decode cX9_isValue 9 = .ok (.invokestatic 48, 3) := by decide +kernel
theorem dX9_isValue_12 : decode cX9_isValue 12 = .ok (.goto 53, 3) := by decide +kernel
theorem dX9_isValue_15 : decode cX9_isValue 15 = .ok (.iload_n 0, 1) := by decide +kernel
theorem dX9_isValue_16 : decode cX9_isValue 16 = .ok (.iconst 1, 1) := by decide +kernel
theorem dX9_isValue_17 : decode cX9_isValue 17 = .ok (.if_icmp .ne 14, 3) := by decide +kernel
theorem dX9_isValue_20 : decode cX9_isValue 20 = .ok (.iload_n 1, 1) := by decide +kernel
theorem dX9_isValue_21 : decode cX9_isValue 21 = .ok (.iconst 1, 1) := by decide +kernel
theorem dX9_isValue_22 : decode cX9_isValue 22 = .ok (.sipush 999, 3) := by decide +kernel
theorem dX9_isValue_25 : decode cX9_isValue 25 = .ok (.invokestatic 48, 3) := by decide +kernel
theorem dX9_isValue_28 : decode cX9_isValue 28 = .ok (.goto 37, 3) := by decide +kernel
theorem dX9_isValue_31 : decode cX9_isValue 31 = .ok (.iload_n 0, 1) := by decide +kernel
theorem dX9_isValue_32 : decode cX9_isValue 32 = .ok (.iconst 2, 1) := by decide +kernel
theorem dX9_isValue_33 : decode cX9_isValue 33 = .ok (.if_icmp .ne 13, 3) := by decide +kernel
theorem dX9_isValue_36 : decode cX9_isValue 36 = .ok (.iload_n 1, 1) := by decide +kernel
theorem dX9_isValue_37 : decode cX9_isValue 37 = .ok (.iconst 0, 1) := by decide +kernel
theorem dX9_isValue_38 : decode cX9_isValue 38 = .ok (.bipush 100, 2) := by decide +kernel
theorem dX9_isValue_40 : decode cX9_isValue 40 = .ok (.invokestatic 48, 3) := by decide +kernel
theorem dX9_isValue_43 : decode cX9_isValue 43 = .ok (.goto 22, 3) := by decide +kernel
theorem dX9_isValue_46 : decode cX9_isValue 46 = .ok (.iload_n 0, 1) := by decide +kernel
theorem dX9_isValue_47 : decode cX9_isValue 47 = .ok (.iconst 3, 1) := by decide +kernel
theorem dX9_isValue_48 : decode cX9_isValue 48 = .ok (.if_icmp .ne 16, 3) := by decide +kernel
theorem dX9_isValue_51 : decode cX9_isValue 51 = .ok (.iload_n 1, 1) := by decide +kernel
theorem dX9_isValue_52 : decode cX9_isValue 52 = .ok (.iconst 0, 1) := by decide +kernel
theorem dX9_isValue_53 : decode cX9_isValue 53 = .ok (.iconst 1, 1) := by decide +kernel
theorem dX9_isValue_54 : decode cX9_isValue 54 = .ok (.invokestatic 48, 3) := by decide +kernel
theorem dX9_isValue_57 : decode cX9_isValue 57 = .ok (.ifCond .eq 7, 3) := by decide +kernel
theorem dX9_isValue_60 : decode cX9_isValue 60 = .ok (.iconst 1, 1) := by decide +kernel
theorem dX9_isValue_61 : decode cX9_isValue 61 = .ok (.goto 4, 3) := by decide +kernel
theorem dX9_isValue_64 : decode cX9_isValue 64 = .ok (.iconst 0, 1) := by decide +kernel
theorem dX9_isValue_65 : decode cX9_isValue 65 = .ok (.ireturn, 1) := by decide +kernel
set_option maxRecDepth 20000 in
theorem ggX9_change_X9_isCard : GoodIn wsX9_change wsX9_isCard := goodIn_r _ [6, 1, 7, 8, 5, 9, 23, 24, 25, 26, 27, 28, 29, 30, 31, 32, 33, 34, 35, 36, 37, 38, 39, 40] (by decide +kernel) (by decide +kernel)
set_option maxRecDepth 20000 in
theorem gX9_change_X9_isCard : GoodIn wsX9_change (wsV RX9 114 RX9 yX9_isCard wsX9_isCard) := goodIn_app (goodIn_of _ (by decide +kernel)) ggX9_change_X9_isCard
set_option maxRecDepth 20000 in
theorem ggX9_change_X9_isValue : GoodIn wsX9_change wsX9_isValue := goodIn_r _ [12, 7, 8, 5, 9] (by decide +kernel) (by decide +kernel)
set_option maxRecDepth 20000 in
theorem gX9_change_X9_isValue : GoodIn wsX9_change (va_wsS RX9 118 yX9_isValue wsX9_isValue) := goodIn_app (goodIn_of _ (by decide +kernel)) ggX9_change_X9_isValue
set_option maxRecDepth 20000 in
theorem ggX9_change_X9_of : GoodIn wsX9_change wsX9_of := goodIn_r _ [16, 1, 23, 24, 25, 26, 27, 28, 29, 30, 31, 32, 33, 34, 35, 36, 37, 38, 39, 40] (by decide +kernel) (by decide +kernel)
set_option maxRecDepth 20000 in
theorem gX9_change_X9_of : GoodIn wsX9_change (wsV RX9 65 RX9 yX9_of wsX9_of) := goodIn_app (goodIn_of _ (by decide +kernel)) ggX9_change_X9_of
set_option maxRecDepth 20000 in
theorem ggX9_change_X9_record : GoodIn wsX9_change wsX9_record := goodIn_r _ [20, 21, 22, 1, 23, 24, 25, 26, 27, 28, 29, 30, 31, 32, 33, 34, 35, 36, 37, 38, 39, 40] (by decide +kernel) (by decide +kernel)
set_option maxRecDepth 20000 in
theorem gX9_change_X9_record : GoodIn wsX9_change (wsV RX9 80 RX9 yX9_record wsX9_record) := goodIn_app (goodIn_of _ (by decide +kernel)) ggX9_change_X9_record
theorem dX9_change_0 : decode cX9_change 0 = .ok (.aload_n 0, 1) := by decide +kernel
theorem dX9_change_1 : decode cX9_change 1 = .ok (.iload_n 1, 1) := by decide +kernel
theorem dX9_change_2 : decode cX9_change 2 = .ok (.invokevirtual 114, 3) := by decide +kernel
theorem dX9_change_5 : decode cX9_change 5 = .ok (.ifCond .ne 5, 3) := by decide +kernel
theorem dX9_change_8 : decode cX9_change 8 = .ok (.iconst (-1), 1) := by decide +kernel
theorem dX9_change_9 : decode cX9_change 9 = .ok (.ireturn, 1) := by decide +kernel
theorem dX9_change_10 : decode cX9_change 10 = .ok (.iload_n 2, 1) := by decide +kernel
theorem dX9_change_11 : decode cX9_change 11 = .ok (.iload_n 3, 1) := by decide +kernel
theorem dX9_change_12 : decode cX9_change 12 = .ok (.invokestatic 118, 3) := by decide +kernel
theorem dX9_change_15 : decode cX9_change 15 = .ok (.ifCond .ne 6, 3) := by decide +kernel
theorem dX9_change_18 : decode cX9_change 18 = .ok (.bipush (-2), 2) := by decide +kernel
theorem dX9_change_20 : decode cX9_change 20 = .ok (.ireturn, 1) := by decide +kernel
theorem dX9_change_21 : decode cX9_change 21 = .ok (.aload_n 0, 1) := by decide +kernel
theorem dX9_change_22 : decode cX9_change 22 = .ok (.iload_n 1, 1) := by decide +kernel
theorem dX9_change_23 : decode cX9_change 23 = .ok (.iconst 1, 1) := by decide +kernel
theorem dX9_change_24 : decode cX9_change 24 = .ok (.iload_n 2, 1) := by decide +kernel
theorem dX9_change_25 : decode cX9_change 25 = .ok (.iadd, 1) := by decide +kernel
theorem dX9_change_26 : decode cX9_change 26 = .ok (.invokevirtual 65, 3) := by decide +kernel
theorem dX9_change_29 : decode cX9_change 29 = .ok (.istore 4, 2) := by decide +kernel
theorem dX9_change_31 : decode cX9_change 31 = .ok (.iload 4, 2) := by decide +kernel
theorem dX9_change_33 : decode cX9_change 33 = .ok (.iload_n 3, 1) := by decide +kernel
theorem dX9_change_34 : decode cX9_change 34 = .ok (.if_icmp .ne 6, 3) := by decide +kernel
theorem dX9_change_37 : decode cX9_change 37 = .ok (.bipush (-5), 2) := by decide +kernel
theorem dX9_change_39 : decode cX9_change 39 = .ok (.ireturn, 1) := by decide +kernel
theorem dX9_change_40 : decode cX9_change 40 = .ok (.aload_n 0, 1) := by decide +kernel
theorem dX9_change_41 : decode cX9_change 41 = .ok (.invokevirtual 80, 3) := by decide +kernel
theorem dX9_change_44 : decode cX9_change 44 = .ok (.aload_n 0, 1) := by decide +kernel
theorem dX9_change_45 : decode cX9_change 45 = .ok (.getfield 7, 3) := by decide +kernel
theorem dX9_change_48 : decode cX9_change 48 = .ok (.iconst 4, 1) := by decide +kernel
theorem dX9_change_49 : decode cX9_change 49 = .ok (.iconst 5, 1) := by decide +kernel
theorem dX9_change_50 : decode cX9_change 50 = .ok (.iload_n 1, 1) := by decide +kernel
theorem dX9_change_51 : decode cX9_change 51 = .ok (.imul, 1) := by decide +kernel
theorem dX9_change_52 : decode cX9_change 52 = .ok (.iadd, 1) := by decide +kernel
theorem dX9_change_53 : decode cX9_change 53 = .ok (.iconst 1, 1) := by decide +kernel
theorem dX9_change_54 : decode cX9_change 54 = .ok (.iadd, 1) := by decide +kernel
theorem dX9_change_55 : decode cX9_change 55 = .ok (.iload_n 2, 1) := by decide +kernel
theorem dX9_change_56 : decode cX9_change 56 = .ok (.iadd, 1) := by decide +kernel
theorem dX9_change_57 : decode cX9_change 57 = .ok (.iload_n 3, 1) := by decide +kernel
theorem dX9_change_58 : decode cX9_change 58 = .ok (.iastore, 1) := by decide +kernel
theorem dX9_change_59 : decode cX9_change 59 = .ok (.iload 4, 2) := by decide +kernel
theorem dX9_change_61 : decode cX9_change 61 = .ok (.ireturn, 1) := by decide +kernel
set_option maxRecDepth 20000 in
theorem ggX9_takeOff_X9_sceneOf : GoodIn wsX9_takeOff wsX9_sceneOf := goodIn_r _ [6, 1, 7, 8, 5, 9, 14, 15, 16, 17, 18, 19, 20, 21, 22, 23, 24, 25, 26, 27, 28, 29, 30, 31] (by decide +kernel) (by decide +kernel)
set_option maxRecDepth 20000 in
theorem gX9_takeOff_X9_sceneOf : GoodIn wsX9_takeOff (wsV RX9 73 RX9 yX9_sceneOf wsX9_sceneOf) := goodIn_app (goodIn_of _ (by decide +kernel)) ggX9_takeOff_X9_sceneOf
set_option maxRecDepth 20000 in
theorem ggX9_takeOff_X9_placeOf : GoodIn wsX9_takeOff wsX9_placeOf := goodIn_r _ [13, 1, 7, 8, 5, 9, 14, 15, 16, 17, 18, 19, 20, 21, 22, 23, 24, 25, 26, 27, 28, 29, 30, 31] (by decide +kernel) (by decide +kernel)
set_option maxRecDepth 20000 in
theorem gX9_takeOff_X9_placeOf : GoodIn wsX9_takeOff (wsV RX9 122 RX9 yX9_placeOf wsX9_placeOf) := goodIn_app (goodIn_of _ (by decide +kernel)) ggX9_takeOff_X9_placeOf
set_option maxRecDepth 20000 in
theorem ggX9_takeOff_X9_row : GoodIn wsX9_takeOff wsX9_row := goodIn_r _ [9] (by decide +kernel) (by decide +kernel)
set_option maxRecDepth 20000 in
theorem gX9_takeOff_X9_row : GoodIn wsX9_takeOff (va_wsS RX9 55 yX9_row wsX9_row) := goodIn_app (goodIn_of _ (by decide +kernel)) ggX9_takeOff_X9_row
theorem dX9_takeOff_0 : decode cX9_takeOff 0 = .ok (.aload_n 0, 1) := by decide +kernel
theorem dX9_takeOff_1 : decode cX9_takeOff 1 = .ok (.iload_n 1, 1) := by decide +kernel
theorem dX9_takeOff_2 : decode cX9_takeOff 2 = .ok (.invokevirtual 73, 3) := by decide +kernel
theorem dX9_takeOff_5 : decode cX9_takeOff 5 = .ok (.istore_n 2, 1) := by decide +kernel
theorem dX9_takeOff_6 : decode cX9_takeOff 6 = .ok (.aload_n 0, 1) := by decide +kernel
theorem dX9_takeOff_7 : decode cX9_takeOff 7 = .ok (.iload_n 1, 1) := by decide +kernel
theorem dX9_takeOff_8 : decode cX9_takeOff 8 = .ok (.invokevirtual 122, 3) := by decide +kernel
theorem dX9_takeOff_11 : decode cX9_takeOff 11 = .ok (.istore_n 3, 1) := by decide +kernel
theorem dX9_takeOff_12 : decode cX9_takeOff 12 = .ok (.iload_n 2, 1) := by decide +kernel
theorem dX9_takeOff_13 : decode cX9_takeOff 13 = .ok (.bipush (-5), 2) := by decide +kernel
theorem dX9_takeOff_15 : decode cX9_takeOff 15 = .ok (.if_icmp .eq 67, 3) := by decide +kernel
theorem dX9_takeOff_18 : decode cX9_takeOff 18 = .ok (.aload_n 0, 1) := by decide +kernel
theorem dX9_takeOff_19 : decode cX9_takeOff 19 = .ok (.getfield 7, 3) := by decide +kernel
theorem dX9_takeOff_22 : decode cX9_takeOff 22 = .ok (.iload_n 2, 1) := by decide +kernel
theorem dX9_takeOff_23 : decode cX9_takeOff 23 = .ok (.invokestatic 55, 3) := by decide +kernel
theorem dX9_takeOff_26 : decode cX9_takeOff 26 = .ok (.dup2, 1) := by decide +kernel
theorem dX9_takeOff_27 : decode cX9_takeOff 27 = .ok (.iaload, 1) := by decide +kernel
theorem dX9_takeOff_28 : decode cX9_takeOff 28 = .ok (.iconst 1, 1) := by decide +kernel
theorem dX9_takeOff_29 : decode cX9_takeOff 29 = .ok (.isub, 1) := by decide +kernel
theorem dX9_takeOff_30 : decode cX9_takeOff 30 = .ok (.iastore, 1) := by decide +kernel
theorem dX9_takeOff_31 : decode cX9_takeOff 31 = .ok (.iload_n 3, 1) := by decide +kernel
theorem dX9_takeOff_32 : decode cX9_takeOff 32 = .ok (.istore 4, 2) := by decide +kernel
theorem dX9_takeOff_34 : decode cX9_takeOff 34 = .ok (.iload 4, 2) := by decide +kernel
theorem dX9_takeOff_36 : decode cX9_takeOff 36 = .ok (.aload_n 0, 1) := by decide +kernel
theorem dX9_takeOff_37 : decode cX9_takeOff 37 = .ok (.getfield 7, 3) := by decide +kernel
theorem dX9_takeOff_40 : decode cX9_takeOff 40 = .ok (.iload_n 2, 1) := by decide +kernel
theorem dX9_takeOff_41 : decode cX9_takeOff 41 = .ok (.invokestatic 55, 3) := by decide +kernel
theorem dX9_takeOff_44 : decode cX9_takeOff 44 = .ok (.iaload, 1) := by decide +kernel
theorem dX9_takeOff_45 : decode cX9_takeOff 45 = .ok (.if_icmp .ge 37, 3) := by decide +kernel
theorem dX9_takeOff_48 : decode cX9_takeOff 48 = .ok (.aload_n 0, 1) := by decide +kernel
theorem dX9_takeOff_49 : decode cX9_takeOff 49 = .ok (.getfield 7, 3) := by decide +kernel
theorem dX9_takeOff_52 : decode cX9_takeOff 52 = .ok (.iload_n 2, 1) := by decide +kernel
theorem dX9_takeOff_53 : decode cX9_takeOff 53 = .ok (.invokestatic 55, 3) := by decide +kernel
theorem dX9_takeOff_56 : decode cX9_takeOff 56 = .ok (.iconst 1, 1) := by decide +kernel
theorem dX9_takeOff_57 : decode cX9_takeOff 57 = .ok (.iadd, 1) := by decide +kernel
theorem dX9_takeOff_58 : decode cX9_takeOff 58 = .ok (.iload 4, 2) := by decide +kernel
theorem dX9_takeOff_60 : decode cX9_takeOff 60 = .ok (.iadd, 1) := by decide +kernel
theorem dX9_takeOff_61 : decode cX9_takeOff 61 = .ok (.aload_n 0, 1) := by decide +kernel
theorem dX9_takeOff_62 : decode cX9_takeOff 62 = .ok (.getfield 7, 3) := by decide +kernel
theorem dX9_takeOff_65 : decode cX9_takeOff 65 = .ok (.iload_n 2, 1) := by decide +kernel
theorem dX9_takeOff_66 : decode cX9_takeOff 66 = .ok (.invokestatic 55, 3) := by decide +kernel
theorem dX9_takeOff_69 : decode cX9_takeOff 69 = .ok (.iconst 2, 1) := by decide +kernel
theorem dX9_takeOff_70 : decode cX9_takeOff 70 = .ok (.iadd, 1) := by decide +kernel
theorem dX9_takeOff_71 : decode cX9_takeOff 71 = .ok (.iload 4, 2) := by decide +kernel
theorem dX9_takeOff_73 : decode cX9_takeOff 73 = .ok (.iadd, 1) := by decide +kernel
theorem dX9_takeOff_74 : decode cX9_takeOff 74 = .ok (.iaload, 1) := by decide +kernel
theorem dX9_takeOff_75 : decode cX9_takeOff 75 = .ok (.iastore, 1) := by decide +kernel
theorem dX9_takeOff_76 : decode cX9_takeOff 76 = .ok (.iinc 4 1, 3) := by decide +kernel
theorem dX9_takeOff_79 : decode cX9_takeOff 79 = .ok (.goto (-45), 3) := by decide +kernel
theorem dX9_takeOff_82 : decode cX9_takeOff 82 = .ok (.return_, 1) := by decide +kernel
set_option maxRecDepth 20000 in
theorem ggX9_putAt_X9_row : GoodIn wsX9_putAt wsX9_row := goodIn_r _ [5] (by decide +kernel) (by decide +kernel)
set_option maxRecDepth 20000 in
theorem gX9_putAt_X9_row : GoodIn wsX9_putAt (va_wsS RX9 55 yX9_row wsX9_row) := goodIn_app (goodIn_of _ (by decide +kernel)) ggX9_putAt_X9_row
theorem dX9_putAt_0 : decode cX9_putAt 0 = .ok (.aload_n 0, 1) := by decide +kernel
theorem dX9_putAt_1 : decode cX9_putAt 1 = .ok (.getfield 7, 3) := by decide +kernel
theorem dX9_putAt_4 : decode cX9_putAt 4 = .ok (.iload_n 2, 1) := by decide +kernel
theorem dX9_putAt_5 : decode cX9_putAt 5 = .ok (.invokestatic 55, 3) := by decide +kernel
theorem dX9_putAt_8 : decode cX9_putAt 8 = .ok (.iaload, 1) := by decide +kernel
theorem dX9_putAt_9 : decode cX9_putAt 9 = .ok (.istore 4, 2) := by decide +kernel
theorem dX9_putAt_11 : decode cX9_putAt 11 = .ok (.iload 4, 2) := by decide +kernel
theorem dX9_putAt_13 : decode cX9_putAt 13 = .ok (.iload_n 3, 1) := by decide +kernel
theorem dX9_putAt_14 : decode cX9_putAt 14 = .ok (.if_icmp .le 35, 3) := by decide +kernel
theorem dX9_putAt_17 : decode cX9_putAt 17 = .ok (.aload_n 0, 1) := by decide +kernel
theorem dX9_putAt_18 : decode cX9_putAt 18 = .ok (.getfield 7, 3) := by decide +kernel
theorem dX9_putAt_21 : decode cX9_putAt 21 = .ok (.iload_n 2, 1) := by decide +kernel
theorem dX9_putAt_22 : decode cX9_putAt 22 = .ok (.invokestatic 55, 3) := by decide +kernel
theorem dX9_putAt_25 : decode cX9_putAt 25 = .ok (.iconst 1, 1) := by decide +kernel
theorem dX9_putAt_26 : decode cX9_putAt 26 = .ok (.iadd, 1) := by decide +kernel
theorem dX9_putAt_27 : decode cX9_putAt 27 = .ok (.iload 4, 2) := by decide +kernel
theorem dX9_putAt_29 : decode cX9_putAt 29 = .ok (.iadd, 1) := by decide +kernel
theorem dX9_putAt_30 : decode cX9_putAt 30 = .ok (.aload_n 0, 1) := by decide +kernel
theorem dX9_putAt_31 : decode cX9_putAt 31 = .ok (.getfield 7, 3) := by decide +kernel
theorem dX9_putAt_34 : decode cX9_putAt 34 = .ok (.iload_n 2, 1) := by decide +kernel
theorem dX9_putAt_35 : decode cX9_putAt 35 = .ok (.invokestatic 55, 3) := by decide +kernel
theorem dX9_putAt_38 : decode cX9_putAt 38 = .ok (.iload 4, 2) := by decide +kernel
theorem dX9_putAt_40 : decode cX9_putAt 40 = .ok (.iadd, 1) := by decide +kernel
theorem dX9_putAt_41 : decode cX9_putAt 41 = .ok (.iaload, 1) := by decide +kernel
theorem dX9_putAt_42 : decode cX9_putAt 42 = .ok (.iastore, 1) := by decide +kernel
theorem dX9_putAt_43 : decode cX9_putAt 43 = .ok (.iinc 4 (-1), 3) := by decide +kernel
theorem dX9_putAt_46 : decode cX9_putAt 46 = .ok (.goto (-35), 3) := by decide +kernel
theorem dX9_putAt_49 : decode cX9_putAt 49 = .ok (.aload_n 0, 1) := by decide +kernel
theorem dX9_putAt_50 : decode cX9_putAt 50 = .ok (.getfield 7, 3) := by decide +kernel
theorem dX9_putAt_53 : decode cX9_putAt 53 = .ok (.iload_n 2, 1) := by decide +kernel
theorem dX9_putAt_54 : decode cX9_putAt 54 = .ok (.invokestatic 55, 3) := by decide +kernel
theorem dX9_putAt_57 : decode cX9_putAt 57 = .ok (.iconst 1, 1) := by decide +kernel
theorem dX9_putAt_58 : decode cX9_putAt 58 = .ok (.iadd, 1) := by decide +kernel
theorem dX9_putAt_59 : decode cX9_putAt 59 = .ok (.iload_n 3, 1) := by decide +kernel
theorem dX9_putAt_60 : decode cX9_putAt 60 = .ok (.iadd, 1) := by decide +kernel
theorem dX9_putAt_61 : decode cX9_putAt 61 = .ok (.iload_n 1, 1) := by decide +kernel
theorem dX9_putAt_62 : decode cX9_putAt 62 = .ok (.iastore, 1) := by decide +kernel
theorem dX9_putAt_63 : decode cX9_putAt 63 = .ok (.aload_n 0, 1) := by decide +kernel
theorem dX9_putAt_64 : decode cX9_putAt 64 = .ok (.getfield 7, 3) := by decide +kernel
theorem dX9_putAt_67 : decode cX9_putAt 67 = .ok (.iload_n 2, 1) := by decide +kernel
theorem dX9_putAt_68 : decode cX9_putAt 68 = .ok (.invokestatic 55, 3) := by decide +kernel
theorem dX9_putAt_71 : decode cX9_putAt 71 = .ok (.dup2, 1) := by decide +kernel
theorem dX9_putAt_72 : decode cX9_putAt 72 = .ok (.iaload, 1) := by decide +kernel
theorem dX9_putAt_73 : decode cX9_putAt 73 = .ok (.iconst 1, 1) := by decide +kernel
theorem dX9_putAt_74 : decode cX9_putAt 74 = .ok (.iadd, 1) := by decide +kernel
theorem dX9_putAt_75 : decode cX9_putAt 75 = .ok (.iastore, 1) := by decide +kernel
theorem dX9_putAt_76 : decode cX9_putAt 76 = .ok (.return_, 1) := by decide +kernel
set_option maxRecDepth 20000 in
theorem ggX9_errorOf_X9_isCard : GoodIn wsX9_errorOf wsX9_isCard := goodIn_r _ [6, 1, 7, 8, 5, 9, 17, 18, 19, 20, 21, 22, 23, 24, 25, 26, 27, 28, 29, 30, 31, 32, 33, 34] (by decide +kernel) (by decide +kernel)
set_option maxRecDepth 20000 in
theorem gX9_errorOf_X9_isCard : GoodIn wsX9_errorOf (wsV RX9 114 RX9 yX9_isCard wsX9_isCard) := goodIn_app (goodIn_of _ (by decide +kernel)) ggX9_errorOf_X9_isCard
set_option maxRecDepth 20000 in
theorem ggX9_errorOf_X9_in : GoodIn wsX9_errorOf wsX9_in := goodIn_r _ [9] (by decide +kernel) (by decide +kernel)
set_option maxRecDepth 20000 in
theorem gX9_errorOf_X9_in : GoodIn wsX9_errorOf (va_wsS RX9 48 yX9_in wsX9_in) := goodIn_app (goodIn_of _ (by decide +kernel)) ggX9_errorOf_X9_in
set_option maxRecDepth 20000 in
theorem ggX9_errorOf_X9_row : GoodIn wsX9_errorOf wsX9_row := goodIn_r _ [12] (by decide +kernel) (by decide +kernel)
set_option maxRecDepth 20000 in
theorem gX9_errorOf_X9_row : GoodIn wsX9_errorOf (va_wsS RX9 55 yX9_row wsX9_row) := goodIn_app (goodIn_of _ (by decide +kernel)) ggX9_errorOf_X9_row
set_option maxRecDepth 20000 in
theorem ggX9_errorOf_X9_sceneOf : GoodIn wsX9_errorOf wsX9_sceneOf := goodIn_r _ [16, 1, 10, 11, 5, 12, 17, 18, 19, 20, 21, 22, 23, 24, 25, 26, 27, 28, 29, 30, 31, 32, 33, 34] (by decide +kernel) (by decide +kernel)
set_option maxRecDepth 20000 in
theorem gX9_errorOf_X9_sceneOf : GoodIn wsX9_errorOf (wsV RX9 73 RX9 yX9_sceneOf wsX9_sceneOf) := goodIn_app (goodIn_of _ (by decide +kernel)) ggX9_errorOf_X9_sceneOf
theorem dX9_errorOf_0 : decode cX9_errorOf 0 = .ok (.aload_n 0, 1) := by decide +kernel
theorem dX9_errorOf_1 : decode cX9_errorOf 1 = .ok (.iload_n 1, 1) := by decide +kernel
theorem dX9_errorOf_2 : decode cX9_errorOf 2 = .ok (.invokevirtual 114, 3) := by decide +kernel
theorem dX9_errorOf_5 : decode cX9_errorOf 5 = .ok (.ifCond .eq 13, 3) := by decide +kernel
theorem dX9_errorOf_8 : decode cX9_errorOf 8 = .ok (.iload_n 2, 1) := by decide +kernel
theorem dX9_errorOf_9 : decode cX9_errorOf 9 = .ok (.iconst 0, 1) := by decide +kernel
theorem dX9_errorOf_10 : decode cX9_errorOf 10 = .ok (.bipush 15, 2) := by decide +kernel
