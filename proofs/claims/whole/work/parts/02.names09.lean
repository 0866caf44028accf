set_option maxRecDepth 20000 in
theorem gX9_card_X9_placeOf : GoodIn wsX9_card (wsV RX9 122 RX9 yX9_placeOf wsX9_placeOf) := goodIn_app (goodIn_of _ (by decide +kernel)) ggX9_card_X9_placeOf
set_option maxRecDepth 20000 in
theorem ggX9_card_X9_breaks : GoodIn wsX9_card wsX9_breaks := goodIn_r _ [29, 30, 31, 32, 33, 34, 5, 35, 36, 37, 38, 39, 40, 41, 1, 7, 19, 20, 21, 11, 12, 13, 14, 15, 16, 17, 18, 46, 47, 48, 49, 50, 51, 52, 53, 54, 55, 56, 57, 58, 59, 60, 61, 62, 63] (by decide +kernel) (by decide +kernel)
set_option maxRecDepth 20000 in
theorem gX9_card_X9_breaks : GoodIn wsX9_card (wsV RX9 76 RX9 yX9_breaks wsX9_breaks) := goodIn_app (goodIn_of _ (by decide +kernel)) ggX9_card_X9_breaks
set_option maxRecDepth 20000 in
theorem ggX9_card_X9_layOrder : GoodIn wsX9_card wsX9_layOrder := goodIn_r _ [41, 36, 1, 7, 37, 19, 20, 5, 21, 46, 47, 48, 49, 50, 51, 52, 53, 54, 55, 56, 57, 58, 59, 60, 61, 62, 63] (by decide +kernel) (by decide +kernel)
set_option maxRecDepth 20000 in
theorem gX9_card_X9_layOrder : GoodIn wsX9_card (wsV RX9 59 RX9 yX9_layOrder wsX9_layOrder) := goodIn_app (goodIn_of _ (by decide +kernel)) ggX9_card_X9_layOrder
set_option maxRecDepth 20000 in
theorem ggX9_card_X9_ahead : GoodIn wsX9_card wsX9_ahead := goodIn_r _ [45, 1, 37, 38, 39, 40, 5, 41, 36, 7, 19, 20, 21, 11, 12, 13, 14, 46, 47, 48, 49, 50, 51, 52, 53, 54, 55, 56, 57, 58, 59, 60, 61, 62, 63] (by decide +kernel) (by decide +kernel)
set_option maxRecDepth 20000 in
theorem gX9_card_X9_ahead : GoodIn wsX9_card (wsV RX9 152 RX9 yX9_ahead wsX9_ahead) := goodIn_app (goodIn_of _ (by decide +kernel)) ggX9_card_X9_ahead
theorem dX9_card_0 : decode cX9_card 0 = .ok (.aload_n 0, 1) := by decide +kernel
theorem dX9_card_1 : decode cX9_card 1 = .ok (.iload_n 1, 1) := by decide +kernel
theorem dX9_card_2 : decode cX9_card 2 = .ok (.invokevirtual 114, 3) := by decide +kernel
theorem dX9_card_5 : decode cX9_card 5 = .ok (.ifCond .ne 5, 3) := by decide +kernel
theorem dX9_card_8 : decode cX9_card 8 = .ok (.iconst (-1), 1) := by decide +kernel
theorem dX9_card_9 : decode cX9_card 9 = .ok (.ireturn, 1) := by decide +kernel
theorem dX9_card_10 : decode cX9_card 10 = .ok (.iload_n 2, 1) := by decide +kernel
theorem dX9_card_11 : decode cX9_card 11 = .ok (.tableswitch 103 0 9 #[53, 53, 53, 53, 53, 60, 66, 72, 86, 97], 53) := by decide +kernel
theorem dX9_card_64 : decode cX9_card 64 = .ok (.aload_n 0, 1) := by decide +kernel
theorem dX9_card_65 : decode cX9_card 65 = .ok (.iload_n 1, 1) := by decide +kernel
theorem dX9_card_66 : decode cX9_card 66 = .ok (.iload_n 2, 1) := by decide +kernel
theorem dX9_card_67 : decode cX9_card 67 = .ok (.invokevirtual 65, 3) := by decide +kernel
theorem dX9_card_70 : decode cX9_card 70 = .ok (.ireturn, 1) := by decide +kernel
theorem dX9_card_71 : decode cX9_card 71 = .ok (.aload_n 0, 1) := by decide +kernel
theorem dX9_card_72 : decode cX9_card 72 = .ok (.iload_n 1, 1) := by decide +kernel
theorem dX9_card_73 : decode cX9_card 73 = .ok (.invokevirtual 73, 3) := by decide +kernel
theorem dX9_card_76 : decode cX9_card 76 = .ok (.ireturn, 1) := by decide +kernel
theorem dX9_card_77 : decode cX9_card 77 = .ok (.aload_n 0, 1) := by decide +kernel
theorem dX9_card_78 : decode cX9_card 78 = .ok (.iload_n 1, 1) := by decide +kernel
theorem dX9_card_79 : decode cX9_card 79 = .ok (.invokevirtual 122, 3) := by decide +kernel
theorem dX9_card_82 : decode cX9_card 82 = .ok (.ireturn, 1) := by decide +kernel
theorem dX9_card_83 : decode cX9_card 83 = .ok (.aload_n 0, 1) := by decide +kernel
theorem dX9_card_84 : decode cX9_card 84 = .ok (.aload_n 0, 1) := by decide +kernel
theorem dX9_card_85 : decode cX9_card 85 = .ok (.iload_n 1, 1) := by decide +kernel
theorem dX9_card_86 : decode cX9_card 86 = .ok (.iconst 0, 1) := by decide +kernel
theorem dX9_card_87 : decode cX9_card 87 = .ok (.invokevirtual 65, 3) := by decide +kernel
theorem dX9_card_90 : decode cX9_card 90 = .ok (.bipush (-5), 2) := by decide +kernel
theorem dX9_card_92 : decode cX9_card 92 = .ok (.iload_n 1, 1) := by decide +kernel
theorem dX9_card_93 : decode cX9_card 93 = .ok (.invokevirtual 76, 3) := by decide +kernel
theorem dX9_card_96 : decode cX9_card 96 = .ok (.ireturn, 1) := by decide +kernel
theorem dX9_card_97 : decode cX9_card 97 = .ok (.aload_n 0, 1) := by decide +kernel
theorem dX9_card_98 : decode cX9_card 98 = .ok (.invokevirtual 59, 3) := by decide +kernel
theorem dX9_card_101 : decode cX9_card 101 = .ok (.aload_n 0, 1) := by decide +kernel
theorem dX9_card_102 : decode cX9_card 102 = .ok (.getfield 25, 3) := by decide +kernel
theorem dX9_card_105 : decode cX9_card 105 = .ok (.iload_n 1, 1) := by decide +kernel
theorem dX9_card_106 : decode cX9_card 106 = .ok (.iaload, 1) := by decide +kernel
theorem dX9_card_107 : decode cX9_card 107 = .ok (.ireturn, 1) := by decide +kernel
theorem dX9_card_108 : decode cX9_card 108 = .ok (.aload_n 0, 1) := by decide +kernel
theorem dX9_card_109 : decode cX9_card 109 = .ok (.iload_n 1, 1) := by decide +kernel
theorem dX9_card_110 : decode cX9_card 110 = .ok (.invokevirtual 152, 3) := by decide +kernel
theorem dX9_card_113 : decode cX9_card 113 = .ok (.ireturn, 1) := by decide +kernel
theorem dX9_card_114 : decode cX9_card 114 = .ok (.bipush (-2), 2) := by decide +kernel
theorem dX9_card_116 : decode cX9_card 116 = .ok (.ireturn, 1) := by decide +kernel
set_option maxRecDepth 20000 in
theorem ggX9_at_X9_in : GoodIn wsX9_at wsX9_in := goodIn_r _ [5] (by decide +kernel) (by decide +kernel)
set_option maxRecDepth 20000 in
theorem gX9_at_X9_in : GoodIn wsX9_at (va_wsS RX9 48 yX9_in wsX9_in) := goodIn_app (goodIn_of _ (by decide +kernel)) ggX9_at_X9_in
set_option maxRecDepth 20000 in
theorem ggX9_at_X9_row : GoodIn wsX9_at wsX9_row := goodIn_r _ [8] (by decide +kernel) (by decide +kernel)
set_option maxRecDepth 20000 in
theorem gX9_at_X9_row : GoodIn wsX9_at (va_wsS RX9 55 yX9_row wsX9_row) := goodIn_app (goodIn_of _ (by decide +kernel)) ggX9_at_X9_row
theorem dX9_at_0 : decode cX9_at 0 = .ok (.iload_n 1, 1) := by decide +kernel
theorem dX9_at_1 : decode cX9_at 1 = .ok (.iconst 0, 1) := by decide +kernel
theorem dX9_at_2 : decode cX9_at 2 = .ok (.bipush 15, 2) := by decide +kernel
theorem dX9_at_4 : decode cX9_at 4 = .ok (.invokestatic 48, 3) := by decide +kernel
theorem dX9_at_7 : decode cX9_at 7 = .ok (.ifCond .ne 5, 3) := by decide +kernel
theorem dX9_at_10 : decode cX9_at 10 = .ok (.iconst (-1), 1) := by decide +kernel
theorem dX9_at_11 : decode cX9_at 11 = .ok (.ireturn, 1) := by decide +kernel
theorem dX9_at_12 : decode cX9_at 12 = .ok (.iload_n 2, 1) := by decide +kernel
theorem dX9_at_13 : decode cX9_at 13 = .ok (.ifCond .ge 6, 3) := by decide +kernel
theorem dX9_at_16 : decode cX9_at 16 = .ok (.bipush (-2), 2) := by decide +kernel
theorem dX9_at_18 : decode cX9_at 18 = .ok (.ireturn, 1) := by decide +kernel
theorem dX9_at_19 : decode cX9_at 19 = .ok (.iload_n 2, 1) := by decide +kernel
theorem dX9_at_20 : decode cX9_at 20 = .ok (.aload_n 0, 1) := by decide +kernel
theorem dX9_at_21 : decode cX9_at 21 = .ok (.getfield 7, 3) := by decide +kernel
theorem dX9_at_24 : decode cX9_at 24 = .ok (.iload_n 1, 1) := by decide +kernel
theorem dX9_at_25 : decode cX9_at 25 = .ok (.invokestatic 55, 3) := by decide +kernel
theorem dX9_at_28 : decode cX9_at 28 = .ok (.iaload, 1) := by decide +kernel
theorem dX9_at_29 : decode cX9_at 29 = .ok (.if_icmp .ge 19, 3) := by decide +kernel
theorem dX9_at_32 : decode cX9_at 32 = .ok (.aload_n 0, 1) := by decide +kernel
theorem dX9_at_33 : decode cX9_at 33 = .ok (.getfield 7, 3) := by decide +kernel
theorem dX9_at_36 : decode cX9_at 36 = .ok (.iload_n 1, 1) := by decide +kernel
theorem dX9_at_37 : decode cX9_at 37 = .ok (.invokestatic 55, 3) := by decide +kernel
theorem dX9_at_40 : decode cX9_at 40 = .ok (.iconst 1, 1) := by decide +kernel
theorem dX9_at_41 : decode cX9_at 41 = .ok (.iadd, 1) := by decide +kernel
theorem dX9_at_42 : decode cX9_at 42 = .ok (.iload_n 2, 1) := by decide +kernel
theorem dX9_at_43 : decode cX9_at 43 = .ok (.iadd, 1) := by decide +kernel
theorem dX9_at_44 : decode cX9_at 44 = .ok (.iaload, 1) := by decide +kernel
theorem dX9_at_45 : decode cX9_at 45 = .ok (.goto 5, 3) := by decide +kernel
theorem dX9_at_48 : decode cX9_at 48 = .ok (.bipush (-5), 2) := by decide +kernel
theorem dX9_at_50 : decode cX9_at 50 = .ok (.ireturn, 1) := by decide +kernel
set_option maxRecDepth 20000 in
theorem ggX9_fewest_X9_layStraight : GoodIn wsX9_fewest wsX9_layStraight := goodIn_r _ [8, 1, 9, 10, 3, 11, 12, 13, 7, 14, 15, 16, 17, 18, 19, 20, 21, 22, 23, 24, 25, 26, 27, 28, 29, 30, 31, 32, 33, 34, 35, 36, 37, 38, 39, 40, 41] (by decide +kernel) (by decide +kernel)
set_option maxRecDepth 20000 in
theorem gX9_fewest_X9_layStraight : GoodIn wsX9_fewest (wsV RX9 69 RX9 yX9_layStraight wsX9_layStraight) := goodIn_app (goodIn_of _ (by decide +kernel)) ggX9_fewest_X9_layStraight
set_option maxRecDepth 20000 in
theorem ggX9_fewest_X9_of : GoodIn wsX9_fewest wsX9_of := goodIn_r _ [23, 16, 24, 25, 26, 27, 28, 29, 30, 31, 32, 33, 34, 35, 36, 37, 38, 39, 40, 41] (by decide +kernel) (by decide +kernel)
set_option maxRecDepth 20000 in
theorem gX9_fewest_X9_of : GoodIn wsX9_fewest (wsV RX9 65 RX9 yX9_of wsX9_of) := goodIn_app (goodIn_of _ (by decide +kernel)) ggX9_fewest_X9_of
theorem dX9_fewest_0 : decode cX9_fewest 0 = .ok (.aload_n 0, 1) := by decide +kernel
theorem dX9_fewest_1 : decode cX9_fewest 1 = .ok (.iload_n 1, 1) := by decide +kernel
theorem dX9_fewest_2 : decode cX9_fewest 2 = .ok (.invokevirtual 69, 3) := by decide +kernel
theorem dX9_fewest_5 : decode cX9_fewest 5 = .ok (.iconst 0, 1) := by decide +kernel
theorem dX9_fewest_6 : decode cX9_fewest 6 = .ok (.istore_n 2, 1) := by decide +kernel
theorem dX9_fewest_7 : decode cX9_fewest 7 = .ok (.iconst 0, 1) := by decide +kernel
theorem dX9_fewest_8 : decode cX9_fewest 8 = .ok (.istore_n 3, 1) := by decide +kernel
theorem dX9_fewest_9 : decode cX9_fewest 9 = .ok (.iload_n 3, 1) := by decide +kernel
theorem dX9_fewest_10 : decode cX9_fewest 10 = .ok (.aload_n 0, 1) := by decide +kernel
theorem dX9_fewest_11 : decode cX9_fewest 11 = .ok (.getfield 62, 3) := by decide +kernel
theorem dX9_fewest_14 : decode cX9_fewest 14 = .ok (.if_icmp .ge 132, 3) := by decide +kernel
theorem dX9_fewest_17 : decode cX9_fewest 17 = .ok (.aload_n 0, 1) := by decide +kernel
theorem dX9_fewest_18 : decode cX9_fewest 18 = .ok (.getfield 34, 3) := by decide +kernel
theorem dX9_fewest_21 : decode cX9_fewest 21 = .ok (.iload_n 3, 1) := by decide +kernel
theorem dX9_fewest_22 : decode cX9_fewest 22 = .ok (.iconst 1, 1) := by decide +kernel
theorem dX9_fewest_23 : decode cX9_fewest 23 = .ok (.iastore, 1) := by decide +kernel
theorem dX9_fewest_24 : decode cX9_fewest 24 = .ok (.iconst 0, 1) := by decide +kernel
theorem dX9_fewest_25 : decode cX9_fewest 25 = .ok (.istore 4, 2) := by decide +kernel
theorem dX9_fewest_27 : decode cX9_fewest 27 = .ok (.iload 4, 2) := by decide +kernel
theorem dX9_fewest_29 : decode cX9_fewest 29 = .ok (.iload_n 3, 1) := by decide +kernel
theorem dX9_fewest_30 : decode cX9_fewest 30 = .ok (.if_icmp .ge 89, 3) := by decide +kernel
theorem dX9_fewest_33 : decode cX9_fewest 33 = .ok (.aload_n 0, 1) := by decide +kernel
theorem dX9_fewest_34 : decode cX9_fewest 34 = .ok (.aload_n 0, 1) := by decide +kernel
theorem dX9_fewest_35 : decode cX9_fewest 35 = .ok (.getfield 28, 3) := by decide +kernel
theorem dX9_fewest_38 : decode cX9_fewest 38 = .ok (.iload 4, 2) := by decide +kernel
theorem dX9_fewest_40 : decode cX9_fewest 40 = .ok (.iaload, 1) := by decide +kernel
theorem dX9_fewest_41 : decode cX9_fewest 41 = .ok (.iconst 1, 1) := by decide +kernel
theorem dX9_fewest_42 : decode cX9_fewest 42 = .ok (.invokevirtual 65, 3) := by decide +kernel
theorem dX9_fewest_45 : decode cX9_fewest 45 = .ok (.aload_n 0, 1) := by decide +kernel
theorem dX9_fewest_46 : decode cX9_fewest 46 = .ok (.aload_n 0, 1) := by decide +kernel
theorem dX9_fewest_47 : decode cX9_fewest 47 = .ok (.getfield 28, 3) := by decide +kernel
theorem dX9_fewest_50 : decode cX9_fewest 50 = .ok (.iload_n 3, 1) := by decide +kernel
theorem dX9_fewest_51 : decode cX9_fewest 51 = .ok (.iaload, 1) := by decide +kernel
theorem dX9_fewest_52 : decode cX9_fewest 52 = .ok (.iconst 1, 1) := by decide +kernel
theorem dX9_fewest_53 : decode cX9_fewest 53 = .ok (.invokevirtual 65, 3) := by decide +kernel
theorem dX9_fewest_56 : decode cX9_fewest 56 = .ok (.if_icmp .gt 25, 3) := by decide +kernel
theorem dX9_fewest_59 : decode cX9_fewest 59 = .ok (.aload_n 0, 1) := by decide +kernel
theorem dX9_fewest_60 : decode cX9_fewest 60 = .ok (.getfield 34, 3) := by decide +kernel
theorem dX9_fewest_63 : decode cX9_fewest 63 = .ok (.iload 4, 2) := by decide +kernel
theorem dX9_fewest_65 : decode cX9_fewest 65 = .ok (.iaload, 1) := by decide +kernel
theorem dX9_fewest_66 : decode cX9_fewest 66 = .ok (.iconst 1, 1) := by decide +kernel
theorem dX9_fewest_67 : decode cX9_fewest 67 = .ok (.iadd, 1) := by decide +kernel
theorem dX9_fewest_68 : decode cX9_fewest 68 = .ok (.aload_n 0, 1) := by decide +kernel
theorem dX9_fewest_69 : decode cX9_fewest 69 = .ok (.getfield 34, 3) := by decide +kernel
theorem dX9_fewest_72 : decode cX9_fewest 72 = .ok (.iload_n 3, 1) := by decide +kernel
theorem dX9_fewest_73 : decode cX9_fewest 73 = .ok (.iaload, 1) := by decide +kernel
theorem dX9_fewest_74 : decode cX9_fewest 74 = .ok (.if_icmp .le 7, 3) := by decide +kernel
theorem dX9_fewest_77 : decode cX9_fewest 77 = .ok (.iconst 1, 1) := by decide +kernel
theorem dX9_fewest_78 : decode cX9_fewest 78 = .ok (.goto 4, 3) := by decide +kernel
theorem dX9_fewest_81 : decode cX9_fewest 81 = .ok (.iconst 0, 1) := by decide +kernel
theorem dX9_fewest_82 : decode cX9_fewest 82 = .ok (.istore 5, 2) := by decide +kernel
theorem dX9_fewest_84 : decode cX9_fewest 84 = .ok (.aload_n 0, 1) := by decide +kernel
theorem dX9_fewest_85 : decode cX9_fewest 85 = .ok (.getfield 34, 3) := by decide +kernel
theorem dX9_fewest_88 : decode cX9_fewest 88 = .ok (.iload_n 3, 1) := by decide +kernel
theorem dX9_fewest_89 : decode cX9_fewest 89 = .ok (.iload 5, 2) := by decide +kernel
theorem dX9_fewest_91 : decode cX9_fewest 91 = .ok (.ifCond .eq 15, 3) := by decide +kernel
theorem dX9_fewest_94 : decode cX9_fewest 94 = .ok (.aload_n 0, 1) := by decide +kernel
theorem dX9_fewest_95 : decode cX9_fewest 95 = .ok (.getfield 34, 3) := by decide +kernel
theorem dX9_fewest_98 : decode cX9_fewest 98 = .ok (.iload 4, 2) := by decide +kernel
theorem dX9_fewest_100 : decode cX9_fewest 100 = .ok (.iaload, 1) := by decide +kernel
theorem dX9_fewest_101 : decode cX9_fewest 101 = .ok (.iconst 1, 1) := by decide +kernel
theorem dX9_fewest_102 : decode cX9_fewest 102 = .ok (.iadd, 1) := by decide +kernel
theorem dX9_fewest_103 : decode cX9_fewest 103 = .ok (.goto 9, 3) := by decide +kernel
theorem dX9_fewest_106 : decode cX9_fewest 106 = .ok (.aload_n 0, 1) := by decide +kernel
theorem dX9_fewest_107 : decode cX9_fewest 107 = .ok (.getfield 34, 3) := by decide +kernel
theorem dX9_fewest_110 : decode cX9_fewest 110 = .ok (.iload_n 3, 1) := by decide +kernel
theorem dX9_fewest_111 : decode cX9_fewest 111 = .ok (.iaload, 1) := by decide +kernel
theorem dX9_fewest_112 : decode cX9_fewest 112 = .ok (.iastore, 1) := by decide +kernel
theorem dX9_fewest_113 : decode cX9_fewest 113 = .ok (.iinc 4 1, 3) := by decide +kernel
theorem dX9_fewest_116 : decode cX9_fewest 116 = .ok (.goto (-89), 3) := by decide +kernel
theorem dX9_fewest_119 : decode cX9_fewest 119 = .ok (.aload_n 0, 1) := by decide +kernel
theorem dX9_fewest_120 : decode cX9_fewest 120 = .ok (.getfield 34, 3) := by decide +kernel
theorem dX9_fewest_123 : decode cX9_fewest 123 = .ok (.iload_n 3, 1) := by decide +kernel
theorem dX9_fewest_124 : decode cX9_fewest 124 = .ok (.iaload, 1) := by decide +kernel
theorem dX9_fewest_125 : decode cX9_fewest 125 = .ok (.iload_n 2, 1) := by decide +kernel
theorem dX9_fewest_126 : decode cX9_fewest 126 = .ok (.if_icmp .le 12, 3) := by decide +kernel
theorem dX9_fewest_129 : decode cX9_fewest 129 = .ok (.aload_n 0, 1) := by decide +kernel
theorem dX9_fewest_130 : decode cX9_fewest 130 = .ok (.getfield 34, 3) := by decide +kernel
theorem dX9_fewest_133 : decode cX9_fewest 133 = .ok (.iload_n 3, 1) := by decide +kernel
theorem dX9_fewest_134 : decode cX9_fewest 134 = .ok (.iaload, 1) := by decide +kernel
theorem dX9_fewest_135 : decode cX9_fewest 135 = .ok (.goto 4, 3) := by decide +kernel
theorem dX9_fewest_138 : decode cX9_fewest 138 = .ok (.iload_n 2, 1) := by decide +kernel
theorem dX9_fewest_139 : decode cX9_fewest 139 = .ok (.istore_n 2, 1) := by decide +kernel
theorem dX9_fewest_140 : decode cX9_fewest 140 = .ok (.iinc 3 1, 3) := by decide +kernel
theorem dX9_fewest_143 : decode cX9_fewest 143 = .ok (.goto (-134), 3) := by decide +kernel
theorem dX9_fewest_146 : decode cX9_fewest 146 = .ok (.aload_n 0, 1) := by decide +kernel
theorem dX9_fewest_147 : decode cX9_fewest 147 = .ok (.getfield 62, 3) := by decide +kernel
theorem dX9_fewest_150 : decode cX9_fewest 150 = .ok (.iload_n 2, 1) := by decide +kernel
theorem dX9_fewest_151 : decode cX9_fewest 151 = .ok (.isub, 1) := by decide +kernel
theorem dX9_fewest_152 : decode cX9_fewest 152 = .ok (.ireturn, 1) := by decide +kernel
set_option maxRecDepth 20000 in
theorem ggX9_threadHoles_X9_layOrder : GoodIn wsX9_threadHoles wsX9_layOrder := goodIn_r _ [8, 1, 9, 3, 2, 10, 11, 7, 12, 21, 22, 23, 24, 25, 26, 27, 28, 29, 30, 31, 32, 33, 34, 35, 36, 37, 38] (by decide +kernel) (by decide +kernel)
set_option maxRecDepth 20000 in
theorem gX9_threadHoles_X9_layOrder : GoodIn wsX9_threadHoles (wsV RX9 59 RX9 yX9_layOrder wsX9_layOrder) := goodIn_app (goodIn_of _ (by decide +kernel)) ggX9_threadHoles_X9_layOrder
set_option maxRecDepth 20000 in
theorem ggX9_threadHoles_X9_of : GoodIn wsX9_threadHoles wsX9_of := goodIn_r _ [16, 3, 21, 22, 23, 24, 25, 26, 27, 28, 29, 30, 31, 32, 33, 34, 35, 36, 37, 38] (by decide +kernel) (by decide +kernel)
set_option maxRecDepth 20000 in
theorem gX9_threadHoles_X9_of : GoodIn wsX9_threadHoles (wsV RX9 65 RX9 yX9_of wsX9_of) := goodIn_app (goodIn_of _ (by decide +kernel)) ggX9_threadHoles_X9_of
set_option maxRecDepth 20000 in
theorem ggX9_threadHoles_X9_sceneOf : GoodIn wsX9_threadHoles wsX9_sceneOf := goodIn_r _ [20, 3, 10, 11, 7, 12, 21, 22, 23, 24, 25, 26, 27, 28, 29, 30, 31, 32, 33, 34, 35, 36, 37, 38] (by decide +kernel) (by decide +kernel)
set_option maxRecDepth 20000 in
theorem gX9_threadHoles_X9_sceneOf : GoodIn wsX9_threadHoles (wsV RX9 73 RX9 yX9_sceneOf wsX9_sceneOf) := goodIn_app (goodIn_of _ (by decide +kernel)) ggX9_threadHoles_X9_sceneOf
theorem dX9_threadHoles_0 : decode cX9_threadHoles 0 = .ok (.aload_n 0, 1) := by decide +kernel
theorem dX9_threadHoles_1 : decode cX9_threadHoles 1 = .ok (.invokevirtual 59, 3) := by decide +kernel
theorem dX9_threadHoles_4 : decode cX9_threadHoles 4 = .ok (.iconst 0, 1) := by decide +kernel
theorem dX9_threadHoles_5 : decode cX9_threadHoles 5 = .ok (.istore_n 2, 1) := by decide +kernel
theorem dX9_threadHoles_6 : decode cX9_threadHoles 6 = .ok (.bipush (-5), 2) := by decide +kernel
theorem dX9_threadHoles_8 : decode cX9_threadHoles 8 = .ok (.istore_n 3, 1) := by decide +kernel
theorem dX9_threadHoles_9 : decode cX9_threadHoles 9 = .ok (.iconst 0, 1) := by decide +kernel
theorem dX9_threadHoles_10 : decode cX9_threadHoles 10 = .ok (.istore 4, 2) := by decide +kernel
theorem dX9_threadHoles_12 : decode cX9_threadHoles 12 = .ok (.iload 4, 2) := by decide +kernel
theorem dX9_threadHoles_14 : decode cX9_threadHoles 14 = .ok (.aload_n 0, 1) := by decide +kernel
theorem dX9_threadHoles_15 : decode cX9_threadHoles 15 = .ok (.getfield 52, 3) := by decide +kernel
theorem dX9_threadHoles_18 : decode cX9_threadHoles 18 = .ok (.if_icmp .ge 75, 3) := by decide +kernel
theorem dX9_threadHoles_21 : decode cX9_threadHoles 21 = .ok (.aload_n 0, 1) := by decide +kernel
theorem dX9_threadHoles_22 : decode cX9_threadHoles 22 = .ok (.aload_n 0, 1) := by decide +kernel
theorem dX9_threadHoles_23 : decode cX9_threadHoles 23 = .ok (.getfield 22, 3) := by decide +kernel
theorem dX9_threadHoles_26 : decode cX9_threadHoles 26 = .ok (.iload 4, 2) := by decide +kernel
theorem dX9_threadHoles_28 : decode cX9_threadHoles 28 = .ok (.iaload, 1) := by decide +kernel
theorem dX9_threadHoles_29 : decode cX9_threadHoles 29 = .ok (.iconst 0, 1) := by decide +kernel
theorem dX9_threadHoles_30 : decode cX9_threadHoles 30 = .ok (.invokevirtual 65, 3) := by decide +kernel
theorem dX9_threadHoles_33 : decode cX9_threadHoles 33 = .ok (.iload_n 1, 1) := by decide +kernel
theorem dX9_threadHoles_34 : decode cX9_threadHoles 34 = .ok (.if_icmp .ne 53, 3) := by decide +kernel
theorem dX9_threadHoles_37 : decode cX9_threadHoles 37 = .ok (.iload_n 2, 1) := by decide +kernel
theorem dX9_threadHoles_38 : decode cX9_threadHoles 38 = .ok (.iload_n 3, 1) := by decide +kernel
theorem dX9_threadHoles_39 : decode cX9_threadHoles 39 = .ok (.bipush (-5), 2) := by decide +kernel
theorem dX9_threadHoles_41 : decode cX9_threadHoles 41 = .ok (.if_icmp .eq 35, 3) := by decide +kernel
theorem dX9_threadHoles_44 : decode cX9_threadHoles 44 = .ok (.aload_n 0, 1) := by decide +kernel
theorem dX9_threadHoles_45 : decode cX9_threadHoles 45 = .ok (.aload_n 0, 1) := by decide +kernel
theorem dX9_threadHoles_46 : decode cX9_threadHoles 46 = .ok (.getfield 22, 3) := by decide +kernel
theorem dX9_threadHoles_49 : decode cX9_threadHoles 49 = .ok (.iload 4, 2) := by decide +kernel
theorem dX9_threadHoles_51 : decode cX9_threadHoles 51 = .ok (.iaload, 1) := by decide +kernel
theorem dX9_threadHoles_52 : decode cX9_threadHoles 52 = .ok (.invokevirtual 73, 3) := by decide +kernel
theorem dX9_threadHoles_55 : decode cX9_threadHoles 55 = .ok (.aload_n 0, 1) := by decide +kernel
theorem dX9_threadHoles_56 : decode cX9_threadHoles 56 = .ok (.iload_n 3, 1) := by decide +kernel
theorem dX9_threadHoles_57 : decode cX9_threadHoles 57 = .ok (.invokevirtual 73, 3) := by decide +kernel
theorem dX9_threadHoles_60 : decode cX9_threadHoles 60 = .ok (.isub, 1) := by decide +kernel
theorem dX9_threadHoles_61 : decode cX9_threadHoles 61 = .ok (.iconst 1, 1) := by decide +kernel
theorem dX9_threadHoles_62 : decode cX9_threadHoles 62 = .ok (.isub, 1) := by decide +kernel
theorem dX9_threadHoles_63 : decode cX9_threadHoles 63 = .ok (.aload_n 0, 1) := by decide +kernel
theorem dX9_threadHoles_64 : decode cX9_threadHoles 64 = .ok (.getfield 7, 3) := by decide +kernel
theorem dX9_threadHoles_67 : decode cX9_threadHoles 67 = .ok (.iconst 1, 1) := by decide +kernel
theorem dX9_threadHoles_68 : decode cX9_threadHoles 68 = .ok (.iaload, 1) := by decide +kernel
theorem dX9_threadHoles_69 : decode cX9_threadHoles 69 = .ok (.if_icmp .le 7, 3) := by decide +kernel
theorem dX9_threadHoles_72 : decode cX9_threadHoles 72 = .ok (.iconst 1, 1) := by decide +kernel
theorem dX9_threadHoles_73 : decode cX9_threadHoles 73 = .ok (.goto 4, 3) := by decide +kernel
theorem dX9_threadHoles_76 : decode cX9_threadHoles 76 = .ok (.iconst 0, 1) := by decide +kernel
theorem dX9_threadHoles_77 : decode cX9_threadHoles 77 = .ok (.iadd, 1) := by decide +kernel
theorem dX9_threadHoles_78 : decode cX9_threadHoles 78 = .ok (.istore_n 2, 1) := by decide +kernel
theorem dX9_threadHoles_79 : decode cX9_threadHoles 79 = .ok (.aload_n 0, 1) := by decide +kernel
theorem dX9_threadHoles_80 : decode cX9_threadHoles 80 = .ok (.getfield 22, 3) := by decide +kernel
theorem dX9_threadHoles_83 : decode cX9_threadHoles 83 = .ok (.iload 4, 2) := by decide +kernel
theorem dX9_threadHoles_85 : decode cX9_threadHoles 85 = .ok (.iaload, 1) := by decide +kernel
theorem dX9_threadHoles_86 : decode cX9_threadHoles 86 = .ok (.istore_n 3, 1) := by decide +kernel
theorem dX9_threadHoles_87 : decode cX9_threadHoles 87 = .ok (.iinc 4 1, 3) := by decide +kernel
theorem dX9_threadHoles_90 : decode cX9_threadHoles 90 = .ok (.goto (-78), 3) := by decide +kernel
theorem dX9_threadHoles_93 : decode cX9_threadHoles 93 = .ok (.iload_n 2, 1) := by decide +kernel
theorem dX9_threadHoles_94 : decode cX9_threadHoles 94 = .ok (.ireturn, 1) := by decide +kernel
set_option maxRecDepth 20000 in
theorem ggX9_timeHoles_X9_layStraight : GoodIn wsX9_timeHoles wsX9_layStraight := goodIn_r _ [8, 1, 9, 10, 2, 11, 12, 13, 7, 14, 15, 3, 16, 17, 18, 19, 20, 21, 22, 23, 24, 25, 26, 27, 28, 29, 30, 31, 32, 33, 34, 35, 36, 37, 38, 39, 40] (by decide +kernel) (by decide +kernel)
set_option maxRecDepth 20000 in
theorem gX9_timeHoles_X9_layStraight : GoodIn wsX9_timeHoles (wsV RX9 69 RX9 yX9_layStraight wsX9_layStraight) := goodIn_app (goodIn_of _ (by decide +kernel)) ggX9_timeHoles_X9_layStraight
set_option maxRecDepth 20000 in
theorem ggX9_timeHoles_X9_of : GoodIn wsX9_timeHoles wsX9_of := goodIn_r _ [22, 3, 23, 24, 25, 26, 27, 28, 29, 30, 31, 32, 33, 34, 35, 36, 37, 38, 39, 40] (by decide +kernel) (by decide +kernel)
set_option maxRecDepth 20000 in
theorem gX9_timeHoles_X9_of : GoodIn wsX9_timeHoles (wsV RX9 65 RX9 yX9_of wsX9_of) := goodIn_app (goodIn_of _ (by decide +kernel)) ggX9_timeHoles_X9_of
theorem dX9_timeHoles_0 : decode cX9_timeHoles 0 = .ok (.aload_n 0, 1) := by decide +kernel
theorem dX9_timeHoles_1 : decode cX9_timeHoles 1 = .ok (.iload_n 1, 1) := by decide +kernel
theorem dX9_timeHoles_2 : decode cX9_timeHoles 2 = .ok (.invokevirtual 69, 3) := by decide +kernel
theorem dX9_timeHoles_5 : decode cX9_timeHoles 5 = .ok (.iconst 0, 1) := by decide +kernel
theorem dX9_timeHoles_6 : decode cX9_timeHoles 6 = .ok (.istore_n 2, 1) := by decide +kernel
theorem dX9_timeHoles_7 : decode cX9_timeHoles 7 = .ok (.iconst 1, 1) := by decide +kernel
theorem dX9_timeHoles_8 : decode cX9_timeHoles 8 = .ok (.istore_n 3, 1) := by decide +kernel
theorem dX9_timeHoles_9 : decode cX9_timeHoles 9 = .ok (.iload_n 3, 1) := by decide +kernel
theorem dX9_timeHoles_10 : decode cX9_timeHoles 10 = .ok (.aload_n 0, 1) := by decide +kernel
theorem dX9_timeHoles_11 : decode cX9_timeHoles 11 = .ok (.getfield 62, 3) := by decide +kernel
theorem dX9_timeHoles_14 : decode cX9_timeHoles 14 = .ok (.if_icmp .ge 51, 3) := by decide +kernel
theorem dX9_timeHoles_17 : decode cX9_timeHoles 17 = .ok (.iload_n 2, 1) := by decide +kernel
theorem dX9_timeHoles_18 : decode cX9_timeHoles 18 = .ok (.aload_n 0, 1) := by decide +kernel
theorem dX9_timeHoles_19 : decode cX9_timeHoles 19 = .ok (.aload_n 0, 1) := by decide +kernel
theorem dX9_timeHoles_20 : decode cX9_timeHoles 20 = .ok (.getfield 28, 3) := by decide +kernel
theorem dX9_timeHoles_23 : decode cX9_timeHoles 23 = .ok (.iload_n 3, 1) := by decide +kernel
theorem dX9_timeHoles_24 : decode cX9_timeHoles 24 = .ok (.iaload, 1) := by decide +kernel
theorem dX9_timeHoles_25 : decode cX9_timeHoles 25 = .ok (.iconst 1, 1) := by decide +kernel
theorem dX9_timeHoles_26 : decode cX9_timeHoles 26 = .ok (.invokevirtual 65, 3) := by decide +kernel
theorem dX9_timeHoles_29 : decode cX9_timeHoles 29 = .ok (.aload_n 0, 1) := by decide +kernel
theorem dX9_timeHoles_30 : decode cX9_timeHoles 30 = .ok (.aload_n 0, 1) := by decide +kernel
theorem dX9_timeHoles_31 : decode cX9_timeHoles 31 = .ok (.getfield 28, 3) := by decide +kernel
theorem dX9_timeHoles_34 : decode cX9_timeHoles 34 = .ok (.iload_n 3, 1) := by decide +kernel
theorem dX9_timeHoles_35 : decode cX9_timeHoles 35 = .ok (.iconst 1, 1) := by decide +kernel
theorem dX9_timeHoles_36 : decode cX9_timeHoles 36 = .ok (.isub, 1) := by decide +kernel
theorem dX9_timeHoles_37 : decode cX9_timeHoles 37 = .ok (.iaload, 1) := by decide +kernel
theorem dX9_timeHoles_38 : decode cX9_timeHoles 38 = .ok (.iconst 1, 1) := by decide +kernel
theorem dX9_timeHoles_39 : decode cX9_timeHoles 39 = .ok (.invokevirtual 65, 3) := by decide +kernel
theorem dX9_timeHoles_42 : decode cX9_timeHoles 42 = .ok (.isub, 1) := by decide +kernel
theorem dX9_timeHoles_43 : decode cX9_timeHoles 43 = .ok (.aload_n 0, 1) := by decide +kernel
theorem dX9_timeHoles_44 : decode cX9_timeHoles 44 = .ok (.getfield 7, 3) := by decide +kernel
theorem dX9_timeHoles_47 : decode cX9_timeHoles 47 = .ok (.iconst 2, 1) := by decide +kernel
theorem dX9_timeHoles_48 : decode cX9_timeHoles 48 = .ok (.iaload, 1) := by decide +kernel
theorem dX9_timeHoles_49 : decode cX9_timeHoles 49 = .ok (.if_icmp .le 7, 3) := by decide +kernel
theorem dX9_timeHoles_52 : decode cX9_timeHoles 52 = .ok (.iconst 1, 1) := by decide +kernel
theorem dX9_timeHoles_53 : decode cX9_timeHoles 53 = .ok (.goto 4, 3) := by decide +kernel
theorem dX9_timeHoles_56 : decode cX9_timeHoles 56 = .ok (.iconst 0, 1) := by decide +kernel
theorem dX9_timeHoles_57 : decode cX9_timeHoles 57 = .ok (.iadd, 1) := by decide +kernel
theorem dX9_timeHoles_58 : decode cX9_timeHoles 58 = .ok (.istore_n 2, 1) := by decide +kernel
theorem dX9_timeHoles_59 : decode cX9_timeHoles 59 = .ok (.iinc 3 1, 3) := by decide +kernel
theorem dX9_timeHoles_62 : decode cX9_timeHoles 62 = .ok (.goto (-53), 3) := by decide +kernel
theorem dX9_timeHoles_65 : decode cX9_timeHoles 65 = .ok (.iload_n 2, 1) := by decide +kernel
theorem dX9_timeHoles_66 : decode cX9_timeHoles 66 = .ok (.ireturn, 1) := by decide +kernel
set_option maxRecDepth 20000 in
theorem ggX9_cardsOf_X9_layOrder : GoodIn wsX9_cardsOf wsX9_layOrder := goodIn_r _ [7, 8, 2, 1, 9, 10, 11, 6, 12, 17, 18, 19, 20, 21, 22, 23, 24, 25, 26, 27, 28, 29, 30, 31, 32, 33, 34] (by decide +kernel) (by decide +kernel)
set_option maxRecDepth 20000 in
theorem gX9_cardsOf_X9_layOrder : GoodIn wsX9_cardsOf (wsV RX9 59 RX9 yX9_layOrder wsX9_layOrder) := goodIn_app (goodIn_of _ (by decide +kernel)) ggX9_cardsOf_X9_layOrder
set_option maxRecDepth 20000 in
theorem ggX9_cardsOf_X9_of : GoodIn wsX9_cardsOf wsX9_of := goodIn_r _ [16, 1, 17, 18, 19, 20, 21, 22, 23, 24, 25, 26, 27, 28, 29, 30, 31, 32, 33, 34] (by decide +kernel) (by decide +kernel)
set_option maxRecDepth 20000 in
theorem gX9_cardsOf_X9_of : GoodIn wsX9_cardsOf (wsV RX9 65 RX9 yX9_of wsX9_of) := goodIn_app (goodIn_of _ (by decide +kernel)) ggX9_cardsOf_X9_of
theorem dX9_cardsOf_0 : decode cX9_cardsOf 0 = .ok (.aload_n 0, 1) := by decide +kernel
theorem dX9_cardsOf_1 : decode cX9_cardsOf 1 = .ok (.invokevirtual 59, 3) := by decide +kernel
theorem dX9_cardsOf_4 : decode cX9_cardsOf 4 = .ok (.iconst 0, 1) := by decide +kernel
theorem dX9_cardsOf_5 : decode cX9_cardsOf 5 = .ok (.istore_n 3, 1) := by decide +kernel
theorem dX9_cardsOf_6 : decode cX9_cardsOf 6 = .ok (.iconst 0, 1) := by decide +kernel
theorem dX9_cardsOf_7 : decode cX9_cardsOf 7 = .ok (.istore 4, 2) := by decide +kernel
theorem dX9_cardsOf_9 : decode cX9_cardsOf 9 = .ok (.iload 4, 2) := by decide +kernel
theorem dX9_cardsOf_11 : decode cX9_cardsOf 11 = .ok (.aload_n 0, 1) := by decide +kernel
theorem dX9_cardsOf_12 : decode cX9_cardsOf 12 = .ok (.getfield 7, 3) := by decide +kernel
theorem dX9_cardsOf_15 : decode cX9_cardsOf 15 = .ok (.iconst 0, 1) := by decide +kernel
theorem dX9_cardsOf_16 : decode cX9_cardsOf 16 = .ok (.iaload, 1) := by decide +kernel
theorem dX9_cardsOf_17 : decode cX9_cardsOf 17 = .ok (.if_icmp .ge 86, 3) := by decide +kernel
theorem dX9_cardsOf_20 : decode cX9_cardsOf 20 = .ok (.aload_n 0, 1) := by decide +kernel
theorem dX9_cardsOf_21 : decode cX9_cardsOf 21 = .ok (.iload 4, 2) := by decide +kernel
theorem dX9_cardsOf_23 : decode cX9_cardsOf 23 = .ok (.iconst 0, 1) := by decide +kernel
theorem dX9_cardsOf_24 : decode cX9_cardsOf 24 = .ok (.invokevirtual 65, 3) := by decide +kernel
theorem dX9_cardsOf_27 : decode cX9_cardsOf 27 = .ok (.iload_n 1, 1) := by decide +kernel
theorem dX9_cardsOf_28 : decode cX9_cardsOf 28 = .ok (.if_icmp .ne 7, 3) := by decide +kernel
theorem dX9_cardsOf_31 : decode cX9_cardsOf 31 = .ok (.iconst 1, 1) := by decide +kernel
theorem dX9_cardsOf_32 : decode cX9_cardsOf 32 = .ok (.goto 4, 3) := by decide +kernel
theorem dX9_cardsOf_35 : decode cX9_cardsOf 35 = .ok (.iconst 0, 1) := by decide +kernel
theorem dX9_cardsOf_36 : decode cX9_cardsOf 36 = .ok (.istore 5, 2) := by decide +kernel
theorem dX9_cardsOf_38 : decode cX9_cardsOf 38 = .ok (.iload_n 3, 1) := by decide +kernel
theorem dX9_cardsOf_39 : decode cX9_cardsOf 39 = .ok (.iload 5, 2) := by decide +kernel
theorem dX9_cardsOf_41 : decode cX9_cardsOf 41 = .ok (.ifCond .eq 33, 3) := by decide +kernel
theorem dX9_cardsOf_44 : decode cX9_cardsOf 44 = .ok (.aload_n 0, 1) := by decide +kernel
theorem dX9_cardsOf_45 : decode cX9_cardsOf 45 = .ok (.getfield 25, 3) := by decide +kernel
theorem dX9_cardsOf_48 : decode cX9_cardsOf 48 = .ok (.iload 4, 2) := by decide +kernel
theorem dX9_cardsOf_50 : decode cX9_cardsOf 50 = .ok (.iaload, 1) := by decide +kernel
theorem dX9_cardsOf_51 : decode cX9_cardsOf 51 = .ok (.bipush (-5), 2) := by decide +kernel
theorem dX9_cardsOf_53 : decode cX9_cardsOf 53 = .ok (.if_icmp .ne 7, 3) := by decide +kernel
theorem dX9_cardsOf_56 : decode cX9_cardsOf 56 = .ok (.iconst 1, 1) := by decide +kernel
theorem dX9_cardsOf_57 : decode cX9_cardsOf 57 = .ok (.goto 4, 3) := by decide +kernel
theorem dX9_cardsOf_60 : decode cX9_cardsOf 60 = .ok (.iconst 0, 1) := by decide +kernel
theorem dX9_cardsOf_61 : decode cX9_cardsOf 61 = .ok (.iload_n 2, 1) := by decide +kernel
theorem dX9_cardsOf_62 : decode cX9_cardsOf 62 = .ok (.iconst 1, 1) := by decide +kernel
theorem dX9_cardsOf_63 : decode cX9_cardsOf 63 = .ok (.if_icmp .ne 7, 3) := by decide +kernel
theorem dX9_cardsOf_66 : decode cX9_cardsOf 66 = .ok (.iconst 1, 1) := by decide +kernel
theorem dX9_cardsOf_67 : decode cX9_cardsOf 67 = .ok (.goto 4, 3) := by decide +kernel
theorem dX9_cardsOf_70 : decode cX9_cardsOf 70 = .ok (.iconst 0, 1) := by decide +kernel
theorem dX9_cardsOf_71 : decode cX9_cardsOf 71 = .ok (.if_icmp .eq 7, 3) := by decide +kernel
theorem dX9_cardsOf_74 : decode cX9_cardsOf 74 = .ok (.iconst 0, 1) := by decide +kernel
theorem dX9_cardsOf_75 : decode cX9_cardsOf 75 = .ok (.goto 20, 3) := by decide +kernel
theorem dX9_cardsOf_78 : decode cX9_cardsOf 78 = .ok (.iload_n 2, 1) := by decide +kernel
theorem dX9_cardsOf_79 : decode cX9_cardsOf 79 = .ok (.bipush 7, 2) := by decide +kernel
theorem dX9_cardsOf_81 : decode cX9_cardsOf 81 = .ok (.if_icmp .ne 13, 3) := by decide +kernel
theorem dX9_cardsOf_84 : decode cX9_cardsOf 84 = .ok (.aload_n 0, 1) := by decide +kernel
theorem dX9_cardsOf_85 : decode cX9_cardsOf 85 = .ok (.iload 4, 2) := by decide +kernel
theorem dX9_cardsOf_87 : decode cX9_cardsOf 87 = .ok (.iconst 2, 1) := by decide +kernel
theorem dX9_cardsOf_88 : decode cX9_cardsOf 88 = .ok (.invokevirtual 65, 3) := by decide +kernel
theorem dX9_cardsOf_91 : decode cX9_cardsOf 91 = .ok (.goto 4, 3) := by decide +kernel
theorem dX9_cardsOf_94 : decode cX9_cardsOf 94 = .ok (.iconst 1, 1) := by decide +kernel
theorem dX9_cardsOf_95 : decode cX9_cardsOf 95 = .ok (.iadd, 1) := by decide +kernel
theorem dX9_cardsOf_96 : decode cX9_cardsOf 96 = .ok (.istore_n 3, 1) := by decide +kernel
theorem dX9_cardsOf_97 : decode cX9_cardsOf 97 = .ok (.iinc 4 1, 3) := by decide +kernel
theorem dX9_cardsOf_100 : decode cX9_cardsOf 100 = .ok (.goto (-91), 3) := by decide +kernel
theorem dX9_cardsOf_103 : decode cX9_cardsOf 103 = .ok (.iload_n 3, 1) := by decide +kernel
theorem dX9_cardsOf_104 : decode cX9_cardsOf 104 = .ok (.ireturn, 1) := by decide +kernel
set_option maxRecDepth 20000 in
theorem ggX9_thread_X9_in : GoodIn wsX9_thread wsX9_in := goodIn_r _ [5] (by decide +kernel) (by decide +kernel)
set_option maxRecDepth 20000 in
theorem gX9_thread_X9_in : GoodIn wsX9_thread (va_wsS RX9 48 yX9_in wsX9_in) := goodIn_app (goodIn_of _ (by decide +kernel)) ggX9_thread_X9_in
set_option maxRecDepth 20000 in
theorem ggX9_thread_X9_cardsOf : GoodIn wsX9_thread wsX9_cardsOf := goodIn_r _ [9, 10, 11, 12, 13, 14, 4, 15, 16, 17, 18, 19, 20, 21, 22, 23, 24, 51, 52, 53, 54, 55, 56, 57, 58, 59, 60, 61, 62, 63, 64, 65, 66, 67, 68] (by decide +kernel) (by decide +kernel)
set_option maxRecDepth 20000 in
theorem gX9_thread_X9_cardsOf : GoodIn wsX9_thread (wsV RX9 155 RX9 yX9_cardsOf wsX9_cardsOf) := goodIn_app (goodIn_of _ (by decide +kernel)) ggX9_thread_X9_cardsOf
set_option maxRecDepth 20000 in
theorem ggX9_thread_X9_layStraight : GoodIn wsX9_thread wsX9_layStraight := goodIn_r _ [28, 1, 16, 17, 29, 12, 13, 14, 4, 15, 11, 10, 18, 19, 20, 21, 22, 23, 24, 51, 52, 53, 54, 55, 56, 57, 58, 59, 60, 61, 62, 63, 64, 65, 66, 67, 68] (by decide +kernel) (by decide +kernel)
set_option maxRecDepth 20000 in
theorem gX9_thread_X9_layStraight : GoodIn wsX9_thread (wsV RX9 69 RX9 yX9_layStraight wsX9_layStraight) := goodIn_app (goodIn_of _ (by decide +kernel)) ggX9_thread_X9_layStraight
set_option maxRecDepth 20000 in
theorem ggX9_thread_X9_breaks : GoodIn wsX9_thread wsX9_breaks := goodIn_r _ [33, 1, 29, 25, 26, 27, 4, 28, 16, 17, 12, 13, 14, 15, 11, 10, 18, 19, 20, 21, 22, 23, 24, 34, 35, 36, 37, 51, 52, 53, 54, 55, 56, 57, 58, 59, 60, 61, 62, 63, 64, 65, 66, 67, 68] (by decide +kernel) (by decide +kernel)
set_option maxRecDepth 20000 in
theorem gX9_thread_X9_breaks : GoodIn wsX9_thread (wsV RX9 76 RX9 yX9_breaks wsX9_breaks) := goodIn_app (goodIn_of _ (by decide +kernel)) ggX9_thread_X9_breaks
set_option maxRecDepth 20000 in
theorem ggX9_thread_X9_fewest : GoodIn wsX9_thread wsX9_fewest := goodIn_r _ [41, 1, 42, 29, 25, 26, 27, 4, 28, 16, 17, 12, 13, 14, 15, 11, 10, 18, 19, 20, 21, 22, 23, 24, 51, 52, 53, 54, 55, 56, 57, 58, 59, 60, 61, 62, 63, 64, 65, 66, 67, 68] (by decide +kernel) (by decide +kernel)
set_option maxRecDepth 20000 in
theorem gX9_thread_X9_fewest : GoodIn wsX9_thread (wsV RX9 158 RX9 yX9_fewest wsX9_fewest) := goodIn_app (goodIn_of _ (by decide +kernel)) ggX9_thread_X9_fewest
set_option maxRecDepth 20000 in
theorem ggX9_thread_X9_threadHoles : GoodIn wsX9_thread wsX9_threadHoles := goodIn_r _ [46, 16, 17, 10, 12, 13, 14, 4, 15, 11, 18, 19, 20, 21, 22, 23, 24, 34, 35, 36, 37, 51, 52, 53, 54, 55, 56, 57, 58, 59, 60, 61, 62, 63, 64, 65, 66, 67, 68] (by decide +kernel) (by decide +kernel)
set_option maxRecDepth 20000 in
theorem gX9_thread_X9_threadHoles : GoodIn wsX9_thread (wsV RX9 161 RX9 yX9_threadHoles wsX9_threadHoles) := goodIn_app (goodIn_of _ (by decide +kernel)) ggX9_thread_X9_threadHoles
set_option maxRecDepth 20000 in
theorem ggX9_thread_X9_timeHoles : GoodIn wsX9_thread wsX9_timeHoles := goodIn_r _ [50, 1, 29, 10, 25, 26, 27, 4, 28, 16, 17, 12, 13, 14, 15, 11, 18, 19, 20, 21, 22, 23, 24, 51, 52, 53, 54, 55, 56, 57, 58, 59, 60, 61, 62, 63, 64, 65, 66, 67, 68] (by decide +kernel) (by decide +kernel)
set_option maxRecDepth 20000 in
theorem gX9_thread_X9_timeHoles : GoodIn wsX9_thread (wsV RX9 164 RX9 yX9_timeHoles wsX9_timeHoles) := goodIn_app (goodIn_of _ (by decide +kernel)) ggX9_thread_X9_timeHoles
theorem dX9_thread_0 : decode cX9_thread 0 = .ok (.iload_n 1, 1) := by decide +kernel
theorem dX9_thread_1 : decode cX9_thread 1 = .ok (.iconst 0, 1) := by decide +kernel
theorem dX9_thread_2 : decode cX9_thread 2 = .ok (.iconst 5, 1) := by decide +kernel
theorem dX9_thread_3 : decode cX9_thread 3 = .ok (.invokestatic 48, 3) := by decide +kernel
theorem dX9_thread_6 : decode cX9_thread 6 = .ok (.ifCond .ne 5, 3) := by decide +kernel
theorem dX9_thread_9 : decode cX9_thread 9 = .ok (.iconst (-1), 1) := by decide +kernel
theorem dX9_thread_10 : decode cX9_thread 10 = .ok (.ireturn, 1) := by decide +kernel
theorem dX9_thread_11 : decode cX9_thread 11 = .ok (.iload_n 2, 1) := by decide +kernel
theorem dX9_thread_12 : decode cX9_thread 12 = .ok (.tableswitch 93 0 7 #[48, 48, 55, 65, 75, 81, 87, 48], 48) := by decide +kernel
theorem dX9_thread_60 : decode cX9_thread 60 = .ok (.aload_n 0, 1) := by decide +kernel
theorem dX9_thread_61 : decode cX9_thread 61 = .ok (.iload_n 1, 1) := by decide +kernel
theorem dX9_thread_62 : decode cX9_thread 62 = .ok (.iload_n 2, 1) := by decide +kernel
theorem dX9_thread_63 : decode cX9_thread 63 = .ok (.invokevirtual 155, 3) := by decide +kernel
theorem dX9_thread_66 : decode cX9_thread 66 = .ok (.ireturn, 1) := by decide +kernel
theorem dX9_thread_67 : decode cX9_thread 67 = .ok (.aload_n 0, 1) := by decide +kernel
theorem dX9_thread_68 : decode cX9_thread 68 = .ok (.iload_n 1, 1) := by decide +kernel
theorem dX9_thread_69 : decode cX9_thread 69 = .ok (.invokevirtual 69, 3) := by decide +kernel
theorem dX9_thread_72 : decode cX9_thread 72 = .ok (.aload_n 0, 1) := by decide +kernel
theorem dX9_thread_73 : decode cX9_thread 73 = .ok (.getfield 62, 3) := by decide +kernel
theorem dX9_thread_76 : decode cX9_thread 76 = .ok (.ireturn, 1) := by decide +kernel
theorem dX9_thread_77 : decode cX9_thread 77 = .ok (.aload_n 0, 1) := by decide +kernel
theorem dX9_thread_78 : decode cX9_thread 78 = .ok (.iload_n 1, 1) := by decide +kernel
theorem dX9_thread_79 : decode cX9_thread 79 = .ok (.bipush (-5), 2) := by decide +kernel
theorem dX9_thread_81 : decode cX9_thread 81 = .ok (.bipush (-5), 2) := by decide +kernel
theorem dX9_thread_83 : decode cX9_thread 83 = .ok (.invokevirtual 76, 3) := by decide +kernel
theorem dX9_thread_86 : decode cX9_thread 86 = .ok (.ireturn, 1) := by decide +kernel
theorem dX9_thread_87 : decode cX9_thread 87 = .ok (.aload_n 0, 1) := by decide +kernel
theorem dX9_thread_88 : decode cX9_thread 88 = .ok (.iload_n 1, 1) := by decide +kernel
theorem dX9_thread_89 : decode cX9_thread 89 = .ok (.invokevirtual 158, 3) := by decide +kernel
theorem dX9_thread_92 : decode cX9_thread 92 = .ok (.ireturn, 1) := by decide +kernel
theorem dX9_thread_93 : decode cX9_thread 93 = .ok (.aload_n 0, 1) := by decide +kernel
theorem dX9_thread_94 : decode cX9_thread 94 = .ok (.iload_n 1, 1) := by decide +kernel
theorem dX9_thread_95 : decode cX9_thread 95 = .ok (.invokevirtual 161, 3) := by decide +kernel
theorem dX9_thread_98 : decode cX9_thread 98 = .ok (.ireturn, 1) := by decide +kernel
theorem dX9_thread_99 : decode cX9_thread 99 = .ok (.aload_n 0, 1) := by decide +kernel
theorem dX9_thread_100 : decode cX9_thread 100 = .ok (.iload_n 1, 1) := by decide +kernel
theorem dX9_thread_101 : decode cX9_thread 101 = .ok (.invokevirtual 164, 3) := by decide +kernel
theorem dX9_thread_104 : decode cX9_thread 104 = .ok (.ireturn, 1) := by decide +kernel
theorem dX9_thread_105 : decode cX9_thread 105 = .ok (.bipush (-2), 2) := by decide +kernel
theorem dX9_thread_107 : decode cX9_thread 107 = .ok (.ireturn, 1) := by decide +kernel
set_option maxRecDepth 20000 in
theorem ggX9_wordsIn_X9_row : GoodIn wsX9_wordsIn wsX9_row := goodIn_r _ [5] (by decide +kernel) (by decide +kernel)
set_option maxRecDepth 20000 in
theorem gX9_wordsIn_X9_row : GoodIn wsX9_wordsIn (va_wsS RX9 55 yX9_row wsX9_row) := goodIn_app (goodIn_of _ (by decide +kernel)) ggX9_wordsIn_X9_row
set_option maxRecDepth 20000 in
theorem ggX9_wordsIn_X9_of : GoodIn wsX9_wordsIn wsX9_of := goodIn_r _ [9, 1, 10, 11, 12, 13, 14, 15, 16, 17, 18, 19, 20, 21, 22, 23, 24, 25, 26, 27] (by decide +kernel) (by decide +kernel)
set_option maxRecDepth 20000 in
theorem gX9_wordsIn_X9_of : GoodIn wsX9_wordsIn (wsV RX9 65 RX9 yX9_of wsX9_of) := goodIn_app (goodIn_of _ (by decide +kernel)) ggX9_wordsIn_X9_of
theorem dX9_wordsIn_0 : decode cX9_wordsIn 0 = .ok (.iconst 0, 1) := by decide +kernel
theorem dX9_wordsIn_1 : decode cX9_wordsIn 1 = .ok (.istore_n 2, 1) := by decide +kernel
theorem dX9_wordsIn_2 : decode cX9_wordsIn 2 = .ok (.iconst 0, 1) := by decide +kernel
theorem dX9_wordsIn_3 : decode cX9_wordsIn 3 = .ok (.istore_n 3, 1) := by decide +kernel
theorem dX9_wordsIn_4 : decode cX9_wordsIn 4 = .ok (.iload_n 3, 1) := by decide +kernel
theorem dX9_wordsIn_5 : decode cX9_wordsIn 5 = .ok (.aload_n 0, 1) := by decide +kernel
theorem dX9_wordsIn_6 : decode cX9_wordsIn 6 = .ok (.getfield 7, 3) := by decide +kernel
theorem dX9_wordsIn_9 : decode cX9_wordsIn 9 = .ok (.iload_n 1, 1) := by decide +kernel
theorem dX9_wordsIn_10 : decode cX9_wordsIn 10 = .ok (.invokestatic 55, 3) := by decide +kernel
theorem dX9_wordsIn_13 : decode cX9_wordsIn 13 = .ok (.iaload, 1) := by decide +kernel
theorem dX9_wordsIn_14 : decode cX9_wordsIn 14 = .ok (.if_icmp .ge 30, 3) := by decide +kernel
theorem dX9_wordsIn_17 : decode cX9_wordsIn 17 = .ok (.iload_n 2, 1) := by decide +kernel
theorem dX9_wordsIn_18 : decode cX9_wordsIn 18 = .ok (.aload_n 0, 1) := by decide +kernel
theorem dX9_wordsIn_19 : decode cX9_wordsIn 19 = .ok (.aload_n 0, 1) := by decide +kernel
theorem dX9_wordsIn_20 : decode cX9_wordsIn 20 = .ok (.getfield 7, 3) := by decide +kernel
theorem dX9_wordsIn_23 : decode cX9_wordsIn 23 = .ok (.iload_n 1, 1) := by decide +kernel
theorem dX9_wordsIn_24 : decode cX9_wordsIn 24 = .ok (.invokestatic 55, 3) := by decide +kernel
theorem dX9_wordsIn_27 : decode cX9_wordsIn 27 = .ok (.iconst 1, 1) := by decide +kernel
theorem dX9_wordsIn_28 : decode cX9_wordsIn 28 = .ok (.iadd, 1) := by decide +kernel
theorem dX9_wordsIn_29 : decode cX9_wordsIn 29 = .ok (.iload_n 3, 1) := by decide +kernel
theorem dX9_wordsIn_30 : decode cX9_wordsIn 30 = .ok (.iadd, 1) := by decide +kernel
theorem dX9_wordsIn_31 : decode cX9_wordsIn 31 = .ok (.iaload, 1) := by decide +kernel
theorem dX9_wordsIn_32 : decode cX9_wordsIn 32 = .ok (.iconst 2, 1) := by decide +kernel
theorem dX9_wordsIn_33 : decode cX9_wordsIn 33 = .ok (.invokevirtual 65, 3) := by decide +kernel
theorem dX9_wordsIn_36 : decode cX9_wordsIn 36 = .ok (.iadd, 1) := by decide +kernel
theorem dX9_wordsIn_37 : decode cX9_wordsIn 37 = .ok (.istore_n 2, 1) := by decide +kernel
theorem dX9_wordsIn_38 : decode cX9_wordsIn 38 = .ok (.iinc 3 1, 3) := by decide +kernel
theorem dX9_wordsIn_41 : decode cX9_wordsIn 41 = .ok (.goto (-37), 3) := by decide +kernel
theorem dX9_wordsIn_44 : decode cX9_wordsIn 44 = .ok (.iload_n 2, 1) := by decide +kernel
theorem dX9_wordsIn_45 : decode cX9_wordsIn 45 = .ok (.ireturn, 1) := by decide +kernel
set_option maxRecDepth 20000 in
theorem ggX9_tensionIn_X9_row : GoodIn wsX9_tensionIn wsX9_row := goodIn_r _ [5] (by decide +kernel) (by decide +kernel)
set_option maxRecDepth 20000 in
theorem gX9_tensionIn_X9_row : GoodIn wsX9_tensionIn (va_wsS RX9 55 yX9_row wsX9_row) := goodIn_app (goodIn_of _ (by decide +kernel)) ggX9_tensionIn_X9_row
set_option maxRecDepth 20000 in
theorem ggX9_tensionIn_X9_of : GoodIn wsX9_tensionIn wsX9_of := goodIn_r _ [9, 1, 14, 15, 16, 17, 18, 19, 20, 21, 22, 23, 24, 25, 26, 27, 28, 29, 30, 31] (by decide +kernel) (by decide +kernel)
set_option maxRecDepth 20000 in
theorem gX9_tensionIn_X9_of : GoodIn wsX9_tensionIn (wsV RX9 65 RX9 yX9_of wsX9_of) := goodIn_app (goodIn_of _ (by decide +kernel)) ggX9_tensionIn_X9_of
set_option maxRecDepth 20000 in
theorem ggX9_tensionIn_X9_wordsIn : GoodIn wsX9_tensionIn wsX9_wordsIn := goodIn_r _ [13, 1, 2, 3, 4, 5, 6, 7, 8, 9, 14, 15, 16, 17, 18, 19, 20, 21, 22, 23, 24, 25, 26, 27, 28, 29, 30, 31] (by decide +kernel) (by decide +kernel)
set_option maxRecDepth 20000 in
theorem gX9_tensionIn_X9_wordsIn : GoodIn wsX9_tensionIn (wsV RX9 167 RX9 yX9_wordsIn wsX9_wordsIn) := goodIn_app (goodIn_of _ (by decide +kernel)) ggX9_tensionIn_X9_wordsIn
theorem dX9_tensionIn_0 : decode cX9_tensionIn 0 = .ok (.fconst 0, 1) := by decide +kernel
theorem dX9_tensionIn_1 : decode cX9_tensionIn 1 = .ok (.fstore_n 2, 1) := by decide +kernel
theorem dX9_tensionIn_2 : decode cX9_tensionIn 2 = .ok (.iconst 0, 1) := by decide +kernel
theorem dX9_tensionIn_3 : decode cX9_tensionIn 3 = .ok (.istore_n 3, 1) := by decide +kernel
theorem dX9_tensionIn_4 : decode cX9_tensionIn 4 = .ok (.iload_n 3, 1) := by decide +kernel
theorem dX9_tensionIn_5 : decode cX9_tensionIn 5 = .ok (.aload_n 0, 1) := by decide +kernel
theorem dX9_tensionIn_6 : decode cX9_tensionIn 6 = .ok (.getfield 7, 3) := by decide +kernel
theorem dX9_tensionIn_9 : decode cX9_tensionIn 9 = .ok (.iload_n 1, 1) := by decide +kernel
theorem dX9_tensionIn_10 : decode cX9_tensionIn 10 = .ok (.invokestatic 55, 3) := by decide +kernel
theorem dX9_tensionIn_13 : decode cX9_tensionIn 13 = .ok (.iaload, 1) := by decide +kernel
theorem dX9_tensionIn_14 : decode cX9_tensionIn 14 = .ok (.if_icmp .ge 44, 3) := by decide +kernel
theorem dX9_tensionIn_17 : decode cX9_tensionIn 17 = .ok (.aload_n 0, 1) := by decide +kernel
theorem dX9_tensionIn_18 : decode cX9_tensionIn 18 = .ok (.getfield 7, 3) := by decide +kernel
theorem dX9_tensionIn_21 : decode cX9_tensionIn 21 = .ok (.iload_n 1, 1) := by decide +kernel
theorem dX9_tensionIn_22 : decode cX9_tensionIn 22 = .ok (.invokestatic 55, 3) := by decide +kernel
theorem dX9_tensionIn_25 : decode cX9_tensionIn 25 = .ok (.iconst 1, 1) := by decide +kernel
theorem dX9_tensionIn_26 : decode cX9_tensionIn 26 = .ok (.iadd, 1) := by decide +kernel
theorem dX9_tensionIn_27 : decode cX9_tensionIn 27 = .ok (.iload_n 3, 1) := by decide +kernel
theorem dX9_tensionIn_28 : decode cX9_tensionIn 28 = .ok (.iadd, 1) := by decide +kernel
theorem dX9_tensionIn_29 : decode cX9_tensionIn 29 = .ok (.iaload, 1) := by decide +kernel
theorem dX9_tensionIn_30 : decode cX9_tensionIn 30 = .ok (.istore 4, 2) := by decide +kernel
theorem dX9_tensionIn_32 : decode cX9_tensionIn 32 = .ok (.fload_n 2, 1) := by decide +kernel
theorem dX9_tensionIn_33 : decode cX9_tensionIn 33 = .ok (.aload_n 0, 1) := by decide +kernel
theorem dX9_tensionIn_34 : decode cX9_tensionIn 34 = .ok (.iload 4, 2) := by decide +kernel
theorem dX9_tensionIn_36 : decode cX9_tensionIn 36 = .ok (.iconst 3, 1) := by decide +kernel
theorem dX9_tensionIn_37 : decode cX9_tensionIn 37 = .ok (.invokevirtual 65, 3) := by decide +kernel
theorem dX9_tensionIn_40 : decode cX9_tensionIn 40 = .ok (.i2f, 1) := by decide +kernel
theorem dX9_tensionIn_41 : decode cX9_tensionIn 41 = .ok (.aload_n 0, 1) := by decide +kernel
theorem dX9_tensionIn_42 : decode cX9_tensionIn 42 = .ok (.iload 4, 2) := by decide +kernel
theorem dX9_tensionIn_44 : decode cX9_tensionIn 44 = .ok (.iconst 2, 1) := by decide +kernel
theorem dX9_tensionIn_45 : decode cX9_tensionIn 45 = .ok (.invokevirtual 65, 3) := by decide +kernel
theorem dX9_tensionIn_48 : decode cX9_tensionIn 48 = .ok (.i2f, 1) := by decide +kernel
theorem dX9_tensionIn_49 : decode cX9_tensionIn 49 = .ok (.fmul, 1) := by decide +kernel
theorem dX9_tensionIn_50 : decode cX9_tensionIn 50 = .ok (.fadd, 1) := by decide +kernel
theorem dX9_tensionIn_51 : decode cX9_tensionIn 51 = .ok (.fstore_n 2, 1) := by decide +kernel
theorem dX9_tensionIn_52 : decode cX9_tensionIn 52 = .ok (.iinc 3 1, 3) := by decide +kernel
theorem dX9_tensionIn_55 : decode cX9_tensionIn 55 = .ok (.goto (-51), 3) := by decide +kernel
theorem dX9_tensionIn_58 : decode cX9_tensionIn 58 = .ok (.fload_n 2, 1) := by decide +kernel
theorem dX9_tensionIn_59 : decode cX9_tensionIn 59 = .ok (.aload_n 0, 1) := by decide +kernel
theorem dX9_tensionIn_60 : decode cX9_tensionIn 60 = .ok (.iload_n 1, 1) := by decide +kernel
theorem dX9_tensionIn_61 : decode cX9_tensionIn 61 = .ok (.invokevirtual 167, 3) := by decide +kernel
theorem dX9_tensionIn_64 : decode cX9_tensionIn 64 = .ok (.i2f, 1) := by decide +kernel
theorem dX9_tensionIn_65 : decode cX9_tensionIn 65 = .ok (.fdiv, 1) := by decide +kernel
theorem dX9_tensionIn_66 : decode cX9_tensionIn 66 = .ok (.freturn, 1) := by decide +kernel
set_option maxRecDepth 20000 in
theorem ggX9_lastScene_X9_row : GoodIn wsX9_lastScene wsX9_row := goodIn_r _ [5] (by decide +kernel) (by decide +kernel)
set_option maxRecDepth 20000 in
theorem gX9_lastScene_X9_row : GoodIn wsX9_lastScene (va_wsS RX9 55 yX9_row wsX9_row) := goodIn_app (goodIn_of _ (by decide +kernel)) ggX9_lastScene_X9_row
theorem dX9_lastScene_0 : decode cX9_lastScene 0 = .ok (.bipush (-5), 2) := by decide +kernel
theorem dX9_lastScene_2 : decode cX9_lastScene 2 = .ok (.istore_n 2, 1) := by decide +kernel
theorem dX9_lastScene_3 : decode cX9_lastScene 3 = .ok (.iconst 0, 1) := by decide +kernel
theorem dX9_lastScene_4 : decode cX9_lastScene 4 = .ok (.istore_n 3, 1) := by decide +kernel
theorem dX9_lastScene_5 : decode cX9_lastScene 5 = .ok (.iload_n 3, 1) := by decide +kernel
theorem dX9_lastScene_6 : decode cX9_lastScene 6 = .ok (.iload_n 1, 1) := by decide +kernel
theorem dX9_lastScene_7 : decode cX9_lastScene 7 = .ok (.if_icmp .ge 27, 3) := by decide +kernel
theorem dX9_lastScene_10 : decode cX9_lastScene 10 = .ok (.aload_n 0, 1) := by decide +kernel
theorem dX9_lastScene_11 : decode cX9_lastScene 11 = .ok (.getfield 7, 3) := by decide +kernel
theorem dX9_lastScene_14 : decode cX9_lastScene 14 = .ok (.iload_n 3, 1) := by decide +kernel
theorem dX9_lastScene_15 : decode cX9_lastScene 15 = .ok (.invokestatic 55, 3) := by decide +kernel
theorem dX9_lastScene_18 : decode cX9_lastScene 18 = .ok (.iaload, 1) := by decide +kernel
theorem dX9_lastScene_19 : decode cX9_lastScene 19 = .ok (.ifCond .le 7, 3) := by decide +kernel
theorem dX9_lastScene_22 : decode cX9_lastScene 22 = .ok (.iload_n 3, 1) := by decide +kernel
theorem dX9_lastScene_23 : decode cX9_lastScene 23 = .ok (.goto 4, 3) := by decide +kernel
theorem dX9_lastScene_26 : decode cX9_lastScene 26 = .ok (.iload_n 2, 1) := by decide +kernel
theorem dX9_lastScene_27 : decode cX9_lastScene 27 = .ok (.istore_n 2, 1) := by decide +kernel
theorem dX9_lastScene_28 : decode cX9_lastScene 28 = .ok (.iinc 3 1, 3) := by decide +kernel
theorem dX9_lastScene_31 : decode cX9_lastScene 31 = .ok (.goto (-26), 3) := by decide +kernel
theorem dX9_lastScene_34 : decode cX9_lastScene 34 = .ok (.iload_n 2, 1) := by decide +kernel
theorem dX9_lastScene_35 : decode cX9_lastScene 35 = .ok (.ireturn, 1) := by decide +kernel
set_option maxRecDepth 20000 in
theorem ggX9_isRising_X9_lastScene : GoodIn wsX9_isRising wsX9_lastScene := goodIn_r _ [7, 1, 8, 9, 6, 10, 23, 24, 25, 26, 27, 28, 29, 30, 31, 32, 33, 34, 35, 36, 37, 38, 39, 40] (by decide +kernel) (by decide +kernel)
set_option maxRecDepth 20000 in
theorem gX9_isRising_X9_lastScene : GoodIn wsX9_isRising (wsV RX9 170 RX9 yX9_lastScene wsX9_lastScene) := goodIn_app (goodIn_of _ (by decide +kernel)) ggX9_isRising_X9_lastScene
set_option maxRecDepth 20000 in
theorem ggX9_isRising_X9_row : GoodIn wsX9_isRising wsX9_row := goodIn_r _ [10] (by decide +kernel) (by decide +kernel)
set_option maxRecDepth 20000 in
theorem gX9_isRising_X9_row : GoodIn wsX9_isRising (va_wsS RX9 55 yX9_row wsX9_row) := goodIn_app (goodIn_of _ (by decide +kernel)) ggX9_isRising_X9_row
set_option maxRecDepth 20000 in
theorem ggX9_isRising_X9_tensionIn : GoodIn wsX9_isRising wsX9_tensionIn := goodIn_r _ [14, 1, 8, 9, 6, 10, 15, 16, 17, 18, 19, 20, 21, 22, 23, 24, 25, 26, 27, 28, 29, 30, 31, 32, 33, 34, 35, 36, 37, 38, 39, 40] (by decide +kernel) (by decide +kernel)
set_option maxRecDepth 20000 in
theorem gX9_isRising_X9_tensionIn : GoodIn wsX9_isRising (wsV RX9 173 RX9 yX9_tensionIn wsX9_tensionIn) := goodIn_app (goodIn_of _ (by decide +kernel)) ggX9_isRising_X9_tensionIn
theorem dX9_isRising_0 : decode cX9_isRising 0 = .ok (.aload_n 0, 1) := by decide +kernel
theorem dX9_isRising_1 : decode cX9_isRising 1 = .ok (.iload_n 1, 1) := by decide +kernel
theorem dX9_isRising_2 : decode cX9_isRising 2 = .ok (.invokevirtual 170, 3) := by decide +kernel
theorem dX9_isRising_5 : decode cX9_isRising 5 = .ok (.istore_n 2, 1) := by decide +kernel
theorem dX9_isRising_6 : decode cX9_isRising 6 = .ok (.aload_n 0, 1) := by decide +kernel
theorem dX9_isRising_7 : decode cX9_isRising 7 = .ok (.getfield 7, 3) := by decide +kernel
theorem dX9_isRising_10 : decode cX9_isRising 10 = .ok (.iload_n 1, 1) := by decide +kernel
theorem dX9_isRising_11 : decode cX9_isRising 11 = .ok (.invokestatic 55, 3) := by decide +kernel
theorem dX9_isRising_14 : decode cX9_isRising 14 = .ok (.iaload, 1) := by decide +kernel
theorem dX9_isRising_15 : decode cX9_isRising 15 = .ok (.ifCond .le 38, 3) := by decide +kernel
theorem dX9_isRising_18 : decode cX9_isRising 18 = .ok (.iload_n 2, 1) := by decide +kernel
theorem dX9_isRising_19 : decode cX9_isRising 19 = .ok (.bipush (-5), 2) := by decide +kernel
theorem dX9_isRising_21 : decode cX9_isRising 21 = .ok (.if_icmp .eq 32, 3) := by decide +kernel
theorem dX9_isRising_24 : decode cX9_isRising 24 = .ok (.aload_n 0, 1) := by decide +kernel
theorem dX9_isRising_25 : decode cX9_isRising 25 = .ok (.iload_n 1, 1) := by decide +kernel
theorem dX9_isRising_26 : decode cX9_isRising 26 = .ok (.invokevirtual 173, 3) := by decide +kernel
theorem dX9_isRising_29 : decode cX9_isRising 29 = .ok (.aload_n 0, 1) := by decide +kernel
theorem dX9_isRising_30 : decode cX9_isRising 30 = .ok (.iload_n 2, 1) := by decide +kernel
theorem dX9_isRising_31 : decode cX9_isRising 31 = .ok (.invokevirtual 173, 3) := by decide +kernel
theorem dX9_isRising_34 : decode cX9_isRising 34 = .ok (.fsub, 1) := by decide +kernel
theorem dX9_isRising_35 : decode cX9_isRising 35 = .ok (.aload_n 0, 1) := by decide +kernel
theorem dX9_isRising_36 : decode cX9_isRising 36 = .ok (.getfield 7, 3) := by decide +kernel
theorem dX9_isRising_39 : decode cX9_isRising 39 = .ok (.iconst 3, 1) := by decide +kernel
theorem dX9_isRising_40 : decode cX9_isRising 40 = .ok (.iaload, 1) := by decide +kernel
theorem dX9_isRising_41 : decode cX9_isRising 41 = .ok (.i2f, 1) := by decide +kernel
theorem dX9_isRising_42 : decode cX9_isRising 42 = .ok (.ldc 177, 2) := by decide +kernel
theorem dX9_isRising_44 : decode cX9_isRising 44 = .ok (.fdiv, 1) := by decide +kernel
theorem dX9_isRising_45 : decode cX9_isRising 45 = .ok (.fcmp .l, 1) := by decide +kernel
theorem dX9_isRising_46 : decode cX9_isRising 46 = .ok (.ifCond .lt 7, 3) := by decide +kernel
theorem dX9_isRising_49 : decode cX9_isRising 49 = .ok (.iconst 1, 1) := by decide +kernel
theorem dX9_isRising_50 : decode cX9_isRising 50 = .ok (.goto 4, 3) := by decide +kernel
theorem dX9_isRising_53 : decode cX9_isRising 53 = .ok (.iconst 0, 1) := by decide +kernel
theorem dX9_isRising_54 : decode cX9_isRising 54 = .ok (.ireturn, 1) := by decide +kernel
set_option maxRecDepth 20000 in
theorem ggX9_climb_X9_row : GoodIn wsX9_climb wsX9_row := goodIn_r _ [5] (by decide +kernel) (by decide +kernel)
set_option maxRecDepth 20000 in
theorem gX9_climb_X9_row : GoodIn wsX9_climb (va_wsS RX9 55 yX9_row wsX9_row) := goodIn_app (goodIn_of _ (by decide +kernel)) ggX9_climb_X9_row
set_option maxRecDepth 20000 in
theorem ggX9_climb_X9_isRising : GoodIn wsX9_climb wsX9_isRising := goodIn_r _ [9, 1, 10, 11, 12, 13, 4, 14, 2, 3, 5, 15, 16, 17, 18, 19, 20, 21, 22, 23, 24, 25, 26, 27, 28, 29, 30, 31, 32, 33, 34, 35, 36, 37, 38, 39, 40, 41, 42, 43, 44] (by decide +kernel) (by decide +kernel)
set_option maxRecDepth 20000 in
theorem gX9_climb_X9_isRising : GoodIn wsX9_climb (wsV RX9 178 RX9 yX9_isRising wsX9_isRising) := goodIn_app (goodIn_of _ (by decide +kernel)) ggX9_climb_X9_isRising
set_option maxRecDepth 20000 in
theorem ggX9_climb_X9_lastScene : GoodIn wsX9_climb wsX9_lastScene := goodIn_r _ [14, 1, 2, 3, 4, 5, 27, 28, 29, 30, 31, 32, 33, 34, 35, 36, 37, 38, 39, 40, 41, 42, 43, 44] (by decide +kernel) (by decide +kernel)
set_option maxRecDepth 20000 in
theorem gX9_climb_X9_lastScene : GoodIn wsX9_climb (wsV RX9 170 RX9 yX9_lastScene wsX9_lastScene) := goodIn_app (goodIn_of _ (by decide +kernel)) ggX9_climb_X9_lastScene
theorem dX9_climb_0 : decode cX9_climb 0 = .ok (.aload_n 0, 1) := by decide +kernel
theorem dX9_climb_1 : decode cX9_climb 1 = .ok (.getfield 7, 3) := by decide +kernel
theorem dX9_climb_4 : decode cX9_climb 4 = .ok (.iload_n 1, 1) := by decide +kernel
theorem dX9_climb_5 : decode cX9_climb 5 = .ok (.invokestatic 55, 3) := by decide +kernel
theorem dX9_climb_8 : decode cX9_climb 8 = .ok (.iaload, 1) := by decide +kernel
theorem dX9_climb_9 : decode cX9_climb 9 = .ok (.ifCond .ne 5, 3) := by decide +kernel
theorem dX9_climb_12 : decode cX9_climb 12 = .ok (.iconst 0, 1) := by decide +kernel
theorem dX9_climb_13 : decode cX9_climb 13 = .ok (.ireturn, 1) := by decide +kernel
theorem dX9_climb_14 : decode cX9_climb 14 = .ok (.iconst 1, 1) := by decide +kernel
theorem dX9_climb_15 : decode cX9_climb 15 = .ok (.istore_n 2, 1) := by decide +kernel
theorem dX9_climb_16 : decode cX9_climb 16 = .ok (.iload_n 1, 1) := by decide +kernel
theorem dX9_climb_17 : decode cX9_climb 17 = .ok (.istore_n 3, 1) := by decide +kernel
theorem dX9_climb_18 : decode cX9_climb 18 = .ok (.aload_n 0, 1) := by decide +kernel
theorem dX9_climb_19 : decode cX9_climb 19 = .ok (.iload_n 3, 1) := by decide +kernel
theorem dX9_climb_20 : decode cX9_climb 20 = .ok (.invokevirtual 178, 3) := by decide +kernel
theorem dX9_climb_23 : decode cX9_climb 23 = .ok (.ifCond .eq 15, 3) := by decide +kernel
theorem dX9_climb_26 : decode cX9_climb 26 = .ok (.iinc 2 1, 3) := by decide +kernel
theorem dX9_climb_29 : decode cX9_climb 29 = .ok (.aload_n 0, 1) := by decide +kernel
theorem dX9_climb_30 : decode cX9_climb 30 = .ok (.iload_n 3, 1) := by decide +kernel
theorem dX9_climb_31 : decode cX9_climb 31 = .ok (.invokevirtual 170, 3) := by decide +kernel
theorem dX9_climb_34 : decode cX9_climb 34 = .ok (.istore_n 3, 1) := by decide +kernel
theorem dX9_climb_35 : decode cX9_climb 35 = .ok (.goto (-17), 3) := by decide +kernel
theorem dX9_climb_38 : decode cX9_climb 38 = .ok (.iload_n 2, 1) := by decide +kernel
theorem dX9_climb_39 : decode cX9_climb 39 = .ok (.ireturn, 1) := by decide +kernel
set_option maxRecDepth 20000 in
theorem ggX9_isHole_X9_row : GoodIn wsX9_isHole wsX9_row := goodIn_r _ [5] (by decide +kernel) (by decide +kernel)
set_option maxRecDepth 20000 in
theorem gX9_isHole_X9_row : GoodIn wsX9_isHole (va_wsS RX9 55 yX9_row wsX9_row) := goodIn_app (goodIn_of _ (by decide +kernel)) ggX9_isHole_X9_row
set_option maxRecDepth 20000 in
theorem ggX9_isHole_X9_lastScene : GoodIn wsX9_isHole wsX9_lastScene := goodIn_r _ [9, 1, 2, 3, 4, 5, 10, 11, 12, 13, 14, 15, 16, 17, 18, 19, 20, 21, 22, 23, 24, 25, 26, 27] (by decide +kernel) (by decide +kernel)
set_option maxRecDepth 20000 in
theorem gX9_isHole_X9_lastScene : GoodIn wsX9_isHole (wsV RX9 170 RX9 yX9_lastScene wsX9_lastScene) := goodIn_app (goodIn_of _ (by decide +kernel)) ggX9_isHole_X9_lastScene
theorem dX9_isHole_0 : decode cX9_isHole 0 = .ok (.iconst 0, 1) := by decide +kernel
theorem dX9_isHole_1 : decode cX9_isHole 1 = .ok (.istore_n 2, 1) := by decide +kernel
theorem dX9_isHole_2 : decode cX9_isHole 2 = .ok (.iload_n 1, 1) := by decide +kernel
theorem dX9_isHole_3 : decode cX9_isHole 3 = .ok (.iconst 1, 1) := by decide +kernel
theorem dX9_isHole_4 : decode cX9_isHole 4 = .ok (.iadd, 1) := by decide +kernel
theorem dX9_isHole_5 : decode cX9_isHole 5 = .ok (.istore_n 3, 1) := by decide +kernel
theorem dX9_isHole_6 : decode cX9_isHole 6 = .ok (.iload_n 3, 1) := by decide +kernel
theorem dX9_isHole_7 : decode cX9_isHole 7 = .ok (.bipush 16, 2) := by decide +kernel
theorem dX9_isHole_9 : decode cX9_isHole 9 = .ok (.if_icmp .ge 21, 3) := by decide +kernel
theorem dX9_isHole_12 : decode cX9_isHole 12 = .ok (.iload_n 2, 1) := by decide +kernel
theorem dX9_isHole_13 : decode cX9_isHole 13 = .ok (.aload_n 0, 1) := by decide +kernel
theorem dX9_isHole_14 : decode cX9_isHole 14 = .ok (.getfield 7, 3) := by decide +kernel
theorem dX9_isHole_17 : decode cX9_isHole 17 = .ok (.iload_n 3, 1) := by decide +kernel
theorem dX9_isHole_18 : decode cX9_isHole 18 = .ok (.invokestatic 55, 3) := by decide +kernel
theorem dX9_isHole_21 : decode cX9_isHole 21 = .ok (.iaload, 1) := by decide +kernel
theorem dX9_isHole_22 : decode cX9_isHole 22 = .ok (.iadd, 1) := by decide +kernel
theorem dX9_isHole_23 : decode cX9_isHole 23 = .ok (.istore_n 2, 1) := by decide +kernel
theorem dX9_isHole_24 : decode cX9_isHole 24 = .ok (.iinc 3 1, 3) := by decide +kernel
theorem dX9_isHole_27 : decode cX9_isHole 27 = .ok (.goto (-21), 3) := by decide +kernel
theorem dX9_isHole_30 : decode cX9_isHole 30 = .ok (.aload_n 0, 1) := by decide +kernel
theorem dX9_isHole_31 : decode cX9_isHole 31 = .ok (.getfield 7, 3) := by decide +kernel
theorem dX9_isHole_34 : decode cX9_isHole 34 = .ok (.iload_n 1, 1) := by decide +kernel
theorem dX9_isHole_35 : decode cX9_isHole 35 = .ok (.invokestatic 55, 3) := by decide +kernel
theorem dX9_isHole_38 : decode cX9_isHole 38 = .ok (.iaload, 1) := by decide +kernel
theorem dX9_isHole_39 : decode cX9_isHole 39 = .ok (.ifCond .ne 21, 3) := by decide +kernel
theorem dX9_isHole_42 : decode cX9_isHole 42 = .ok (.aload_n 0, 1) := by decide +kernel
theorem dX9_isHole_43 : decode cX9_isHole 43 = .ok (.iload_n 1, 1) := by decide +kernel
theorem dX9_isHole_44 : decode cX9_isHole 44 = .ok (.invokevirtual 170, 3) := by decide +kernel
theorem dX9_isHole_47 : decode cX9_isHole 47 = .ok (.bipush (-5), 2) := by decide +kernel
theorem dX9_isHole_49 : decode cX9_isHole 49 = .ok (.if_icmp .eq 11, 3) := by decide +kernel
theorem dX9_isHole_52 : decode cX9_isHole 52 = .ok (.iload_n 2, 1) := by decide +kernel
theorem dX9_isHole_53 : decode cX9_isHole 53 = .ok (.ifCond .le 7, 3) := by decide +kernel
theorem dX9_isHole_56 : decode cX9_isHole 56 = .ok (.iconst 1, 1) := by decide +kernel
theorem dX9_isHole_57 : decode cX9_isHole 57 = .ok (.goto 4, 3) := by decide +kernel
theorem dX9_isHole_60 : decode cX9_isHole 60 = .ok (.iconst 0, 1) := by decide +kernel
theorem dX9_isHole_61 : decode cX9_isHole 61 = .ok (.ireturn, 1) := by decide +kernel
set_option maxRecDepth 20000 in
theorem ggX9_threadsIn_X9_row : GoodIn wsX9_threadsIn wsX9_row := goodIn_r _ [5] (by decide +kernel) (by decide +kernel)
set_option maxRecDepth 20000 in
theorem gX9_threadsIn_X9_row : GoodIn wsX9_threadsIn (va_wsS RX9 55 yX9_row wsX9_row) := goodIn_app (goodIn_of _ (by decide +kernel)) ggX9_threadsIn_X9_row
set_option maxRecDepth 20000 in
theorem ggX9_threadsIn_X9_of : GoodIn wsX9_threadsIn wsX9_of := goodIn_r _ [9, 1, 10, 11, 12, 13, 14, 15, 16, 17, 18, 19, 20, 21, 22, 23, 24, 25, 26, 27] (by decide +kernel) (by decide +kernel)
set_option maxRecDepth 20000 in
theorem gX9_threadsIn_X9_of : GoodIn wsX9_threadsIn (wsV RX9 65 RX9 yX9_of wsX9_of) := goodIn_app (goodIn_of _ (by decide +kernel)) ggX9_threadsIn_X9_of
theorem dX9_threadsIn_0 : decode cX9_threadsIn 0 = .ok (.iconst 0, 1) := by decide +kernel
theorem dX9_threadsIn_1 : decode cX9_threadsIn 1 = .ok (.istore_n 2, 1) := by decide +kernel
theorem dX9_threadsIn_2 : decode cX9_threadsIn 2 = .ok (.iconst 0, 1) := by decide +kernel
theorem dX9_threadsIn_3 : decode cX9_threadsIn 3 = .ok (.istore_n 3, 1) := by decide +kernel
theorem dX9_threadsIn_4 : decode cX9_threadsIn 4 = .ok (.iload_n 3, 1) := by decide +kernel
theorem dX9_threadsIn_5 : decode cX9_threadsIn 5 = .ok (.aload_n 0, 1) := by decide +kernel
theorem dX9_threadsIn_6 : decode cX9_threadsIn 6 = .ok (.getfield 7, 3) := by decide +kernel
theorem dX9_threadsIn_9 : decode cX9_threadsIn 9 = .ok (.iload_n 1, 1) := by decide +kernel
theorem dX9_threadsIn_10 : decode cX9_threadsIn 10 = .ok (.invokestatic 55, 3) := by decide +kernel
theorem dX9_threadsIn_13 : decode cX9_threadsIn 13 = .ok (.iaload, 1) := by decide +kernel
theorem dX9_threadsIn_14 : decode cX9_threadsIn 14 = .ok (.if_icmp .ge 32, 3) := by decide +kernel
theorem dX9_threadsIn_17 : decode cX9_threadsIn 17 = .ok (.iload_n 2, 1) := by decide +kernel
theorem dX9_threadsIn_18 : decode cX9_threadsIn 18 = .ok (.iconst 1, 1) := by decide +kernel
theorem dX9_threadsIn_19 : decode cX9_threadsIn 19 = .ok (.aload_n 0, 1) := by decide +kernel
theorem dX9_threadsIn_20 : decode cX9_threadsIn 20 = .ok (.aload_n 0, 1) := by decide +kernel
theorem dX9_threadsIn_21 : decode cX9_threadsIn 21 = .ok (.getfield 7, 3) := by decide +kernel
theorem dX9_threadsIn_24 : decode cX9_threadsIn 24 = .ok (.iload_n 1, 1) := by decide +kernel
theorem dX9_threadsIn_25 : decode cX9_threadsIn 25 = .ok (.invokestatic 55, 3) := by decide +kernel
theorem dX9_threadsIn_28 : decode cX9_threadsIn 28 = .ok (.iconst 1, 1) := by decide +kernel
theorem dX9_threadsIn_29 : decode cX9_threadsIn 29 = .ok (.iadd, 1) := by decide +kernel
theorem dX9_threadsIn_30 : decode cX9_threadsIn 30 = .ok (.iload_n 3, 1) := by decide +kernel
theorem dX9_threadsIn_31 : decode cX9_threadsIn 31 = .ok (.iadd, 1) := by decide +kernel
theorem dX9_threadsIn_32 : decode cX9_threadsIn 32 = .ok (.iaload, 1) := by decide +kernel
theorem dX9_threadsIn_33 : decode cX9_threadsIn 33 = .ok (.iconst 0, 1) := by decide +kernel
theorem dX9_threadsIn_34 : decode cX9_threadsIn 34 = .ok (.invokevirtual 65, 3) := by decide +kernel
theorem dX9_threadsIn_37 : decode cX9_threadsIn 37 = .ok (.ishl, 1) := by decide +kernel
theorem dX9_threadsIn_38 : decode cX9_threadsIn 38 = .ok (.ior, 1) := by decide +kernel
theorem dX9_threadsIn_39 : decode cX9_threadsIn 39 = .ok (.istore_n 2, 1) := by decide +kernel
theorem dX9_threadsIn_40 : decode cX9_threadsIn 40 = .ok (.iinc 3 1, 3) := by decide +kernel
theorem dX9_threadsIn_43 : decode cX9_threadsIn 43 = .ok (.goto (-39), 3) := by decide +kernel
theorem dX9_threadsIn_46 : decode cX9_threadsIn 46 = .ok (.iload_n 2, 1) := by decide +kernel
theorem dX9_threadsIn_47 : decode cX9_threadsIn 47 = .ok (.ireturn, 1) := by decide +kernel
set_option maxRecDepth 20000 in
theorem ggX9_breaksIn_X9_breaks : GoodIn wsX9_breaksIn wsX9_breaks := goodIn_r _ [5, 6, 7, 8, 9, 10, 4, 11, 12, 13, 14, 15, 16, 17, 18, 19, 20, 21, 22, 23, 24, 25, 26, 27, 28, 29, 30, 31, 32, 33, 34, 35, 36, 37, 38, 39, 40, 41, 42, 43, 44, 45, 46, 47, 48] (by decide +kernel) (by decide +kernel)
set_option maxRecDepth 20000 in
theorem gX9_breaksIn_X9_breaks : GoodIn wsX9_breaksIn (wsV RX9 76 RX9 yX9_breaks wsX9_breaks) := goodIn_app (goodIn_of _ (by decide +kernel)) ggX9_breaksIn_X9_breaks
theorem dX9_breaksIn_0 : decode cX9_breaksIn 0 = .ok (.iconst 0, 1) := by decide +kernel
theorem dX9_breaksIn_1 : decode cX9_breaksIn 1 = .ok (.istore_n 2, 1) := by decide +kernel
theorem dX9_breaksIn_2 : decode cX9_breaksIn 2 = .ok (.iconst 0, 1) := by decide +kernel
theorem dX9_breaksIn_3 : decode cX9_breaksIn 3 = .ok (.istore_n 3, 1) := by decide +kernel
theorem dX9_breaksIn_4 : decode cX9_breaksIn 4 = .ok (.iload_n 3, 1) := by decide +kernel
theorem dX9_breaksIn_5 : decode cX9_breaksIn 5 = .ok (.bipush 6, 2) := by decide +kernel
theorem dX9_breaksIn_7 : decode cX9_breaksIn 7 = .ok (.if_icmp .ge 20, 3) := by decide +kernel
theorem dX9_breaksIn_10 : decode cX9_breaksIn 10 = .ok (.iload_n 2, 1) := by decide +kernel
theorem dX9_breaksIn_11 : decode cX9_breaksIn 11 = .ok (.aload_n 0, 1) := by decide +kernel
theorem dX9_breaksIn_12 : decode cX9_breaksIn 12 = .ok (.iload_n 3, 1) := by decide +kernel
theorem dX9_breaksIn_13 : decode cX9_breaksIn 13 = .ok (.iload_n 1, 1) := by decide +kernel
theorem dX9_breaksIn_14 : decode cX9_breaksIn 14 = .ok (.bipush (-5), 2) := by decide +kernel
theorem dX9_breaksIn_16 : decode cX9_breaksIn 16 = .ok (.invokevirtual 76, 3) := by decide +kernel
theorem dX9_breaksIn_19 : decode cX9_breaksIn 19 = .ok (.iadd, 1) := by decide +kernel
theorem dX9_breaksIn_20 : decode cX9_breaksIn 20 = .ok (.istore_n 2, 1) := by decide +kernel
theorem dX9_breaksIn_21 : decode cX9_breaksIn 21 = .ok (.iinc 3 1, 3) := by decide +kernel
theorem dX9_breaksIn_24 : decode cX9_breaksIn 24 = .ok (.goto (-20), 3) := by decide +kernel
theorem dX9_breaksIn_27 : decode cX9_breaksIn 27 = .ok (.iload_n 2, 1) := by decide +kernel
theorem dX9_breaksIn_28 : decode cX9_breaksIn 28 = .ok (.ireturn, 1) := by decide +kernel
set_option maxRecDepth 20000 in
theorem ggX9_scene_X9_in : GoodIn wsX9_scene wsX9_in := goodIn_r _ [5] (by decide +kernel) (by decide +kernel)
set_option maxRecDepth 20000 in
theorem gX9_scene_X9_in : GoodIn wsX9_scene (va_wsS RX9 48 yX9_in wsX9_in) := goodIn_app (goodIn_of _ (by decide +kernel)) ggX9_scene_X9_in
set_option maxRecDepth 20000 in
theorem ggX9_scene_X9_row : GoodIn wsX9_scene wsX9_row := goodIn_r _ [8] (by decide +kernel) (by decide +kernel)
set_option maxRecDepth 20000 in
theorem gX9_scene_X9_row : GoodIn wsX9_scene (va_wsS RX9 55 yX9_row wsX9_row) := goodIn_app (goodIn_of _ (by decide +kernel)) ggX9_scene_X9_row
set_option maxRecDepth 20000 in
theorem ggX9_scene_X9_wordsIn : GoodIn wsX9_scene wsX9_wordsIn := goodIn_r _ [12, 1, 6, 7, 4, 8, 13, 14, 15, 16, 67, 68, 69, 70, 71, 72, 73, 74, 75, 76, 77, 78, 79, 80, 81, 82, 83, 84] (by decide +kernel) (by decide +kernel)
set_option maxRecDepth 20000 in
theorem gX9_scene_X9_wordsIn : GoodIn wsX9_scene (wsV RX9 167 RX9 yX9_wordsIn wsX9_wordsIn) := goodIn_app (goodIn_of _ (by decide +kernel)) ggX9_scene_X9_wordsIn
set_option maxRecDepth 20000 in
theorem ggX9_scene_X9_threadsIn : GoodIn wsX9_scene wsX9_threadsIn := goodIn_r _ [20, 1, 6, 7, 4, 8, 13, 14, 15, 16, 67, 68, 69, 70, 71, 72, 73, 74, 75, 76, 77, 78, 79, 80, 81, 82, 83, 84] (by decide +kernel) (by decide +kernel)
set_option maxRecDepth 20000 in
theorem gX9_scene_X9_threadsIn : GoodIn wsX9_scene (wsV RX9 181 RX9 yX9_threadsIn wsX9_threadsIn) := goodIn_app (goodIn_of _ (by decide +kernel)) ggX9_scene_X9_threadsIn
set_option maxRecDepth 20000 in
theorem ggX9_scene_X9_isHole : GoodIn wsX9_scene wsX9_isHole := goodIn_r _ [24, 1, 6, 7, 4, 8, 25, 26, 27, 28, 67, 68, 69, 70, 71, 72, 73, 74, 75, 76, 77, 78, 79, 80, 81, 82, 83, 84] (by decide +kernel) (by decide +kernel)
set_option maxRecDepth 20000 in
theorem gX9_scene_X9_isHole : GoodIn wsX9_scene (wsV RX9 184 RX9 yX9_isHole wsX9_isHole) := goodIn_app (goodIn_of _ (by decide +kernel)) ggX9_scene_X9_isHole
set_option maxRecDepth 20000 in
theorem ggX9_scene_X9_isRising : GoodIn wsX9_scene wsX9_isRising := goodIn_r _ [32, 1, 33, 25, 26, 27, 4, 28, 6, 7, 8, 34, 35, 36, 37, 13, 14, 15, 16, 9, 10, 11, 12, 67, 68, 69, 70, 71, 72, 73, 74, 75, 76, 77, 78, 79, 80, 81, 82, 83, 84] (by decide +kernel) (by decide +kernel)
set_option maxRecDepth 20000 in
theorem gX9_scene_X9_isRising : GoodIn wsX9_scene (wsV RX9 178 RX9 yX9_isRising wsX9_isRising) := goodIn_app (goodIn_of _ (by decide +kernel)) ggX9_scene_X9_isRising
set_option maxRecDepth 20000 in
theorem ggX9_scene_X9_breaksIn : GoodIn wsX9_scene wsX9_breaksIn := goodIn_r _ [41, 42, 43, 44, 4, 45, 46, 47, 48, 49, 50, 51, 52, 53, 54, 55, 56, 57, 58, 1, 6, 7, 8, 13, 14, 15, 16, 59, 60, 61, 62, 67, 68, 69, 70, 71, 72, 73, 74, 75, 76, 77, 78, 79, 80, 81, 82, 83, 84] (by decide +kernel) (by decide +kernel)
set_option maxRecDepth 20000 in
theorem gX9_scene_X9_breaksIn : GoodIn wsX9_scene (wsV RX9 187 RX9 yX9_breaksIn wsX9_breaksIn) := goodIn_app (goodIn_of _ (by decide +kernel)) ggX9_scene_X9_breaksIn
set_option maxRecDepth 20000 in
theorem ggX9_scene_X9_climb : GoodIn wsX9_scene wsX9_climb := goodIn_r _ [66, 1, 6, 7, 4, 8, 29, 30, 31, 32, 33, 25, 26, 27, 28, 34, 35, 36, 37, 13, 14, 15, 16, 9, 10, 11, 12, 67, 68, 69, 70, 71, 72, 73, 74, 75, 76, 77, 78, 79, 80, 81, 82, 83, 84] (by decide +kernel) (by decide +kernel)
set_option maxRecDepth 20000 in
theorem gX9_scene_X9_climb : GoodIn wsX9_scene (wsV RX9 190 RX9 yX9_climb wsX9_climb) := goodIn_app (goodIn_of _ (by decide +kernel)) ggX9_scene_X9_climb
theorem dX9_scene_0 : decode cX9_scene 0 = .ok (.iload_n 1, 1) := by decide +kernel
theorem dX9_scene_1 : decode cX9_scene 1 = .ok (.iconst 0, 1) := by decide +kernel
theorem dX9_scene_2 : decode cX9_scene 2 = .ok (.bipush 15, 2) := by decide +kernel
theorem dX9_scene_4 : decode cX9_scene 4 = .ok (.invokestatic 48, 3) := by decide +kernel
theorem dX9_scene_7 : decode cX9_scene 7 = .ok (.ifCond .ne 5, 3) := by decide +kernel
theorem dX9_scene_10 : decode cX9_scene 10 = .ok (.iconst (-1), 1) := by decide +kernel
theorem dX9_scene_11 : decode cX9_scene 11 = .ok (.ireturn, 1) := by decide +kernel
theorem dX9_scene_12 : decode cX9_scene 12 = .ok (.iload_n 2, 1) := by decide +kernel
theorem dX9_scene_13 : decode cX9_scene 13 = .ok (.tableswitch 105 0 6 #[43, 53, 59, 65, 79, 93, 99], 43) := by decide +kernel
theorem dX9_scene_56 : decode cX9_scene 56 = .ok (.aload_n 0, 1) := by decide +kernel
theorem dX9_scene_57 : decode cX9_scene 57 = .ok (.getfield 7, 3) := by decide +kernel
theorem dX9_scene_60 : decode cX9_scene 60 = .ok (.iload_n 1, 1) := by decide +kernel
theorem dX9_scene_61 : decode cX9_scene 61 = .ok (.invokestatic 55, 3) := by decide +kernel
theorem dX9_scene_64 : decode cX9_scene 64 = .ok (.iaload, 1) := by decide +kernel
theorem dX9_scene_65 : decode cX9_scene 65 = .ok (.ireturn, 1) := by decide +kernel
theorem dX9_scene_66 : decode cX9_scene 66 = .ok (.aload_n 0, 1) := by decide +kernel
theorem dX9_scene_67 : decode cX9_scene 67 = .ok (.iload_n 1, 1) := by decide +kernel
theorem dX9_scene_68 : decode cX9_scene 68 = .ok (.invokevirtual 167, 3) := by decide +kernel
theorem dX9_scene_71 : decode cX9_scene 71 = .ok (.ireturn, 1) := by decide +kernel
theorem dX9_scene_72 : decode cX9_scene 72 = .ok (.aload_n 0, 1) := by decide +kernel
theorem dX9_scene_73 : decode cX9_scene 73 = .ok (.iload_n 1, 1) := by decide +kernel
theorem dX9_scene_74 : decode cX9_scene 74 = .ok (.invokevirtual 181, 3) := by decide +kernel
theorem dX9_scene_77 : decode cX9_scene 77 = .ok (.ireturn, 1) := by decide +kernel
theorem dX9_scene_78 : decode cX9_scene 78 = .ok (.aload_n 0, 1) := by decide +kernel
theorem dX9_scene_79 : decode cX9_scene 79 = .ok (.iload_n 1, 1) := by decide +kernel
theorem dX9_scene_80 : decode cX9_scene 80 = .ok (.invokevirtual 184, 3) := by decide +kernel
theorem dX9_scene_83 : decode cX9_scene 83 = .ok (.ifCond .eq 7, 3) := by decide +kernel
theorem dX9_scene_86 : decode cX9_scene 86 = .ok (.iconst 1, 1) := by decide +kernel
theorem dX9_scene_87 : decode cX9_scene 87 = .ok (.goto 4, 3) := by decide +kernel
theorem dX9_scene_90 : decode cX9_scene 90 = .ok (.iconst 0, 1) := by decide +kernel
theorem dX9_scene_91 : decode cX9_scene 91 = .ok (.ireturn, 1) := by decide +kernel
theorem dX9_scene_92 : decode cX9_scene 92 = .ok (.aload_n 0, 1) := by decide +kernel
theorem dX9_scene_93 : decode cX9_scene 93 = .ok (.iload_n 1, 1) := by decide +kernel
theorem dX9_scene_94 : decode cX9_scene 94 = .ok (.invokevirtual 178, 3) := by decide +kernel
theorem dX9_scene_97 : decode cX9_scene 97 = .ok (.ifCond .eq 7, 3) := by decide +kernel
theorem dX9_scene_100 : decode cX9_scene 100 = .ok (.iconst 1, 1) := by decide +kernel
theorem dX9_scene_101 : decode cX9_scene 101 = .ok (.goto 4, 3) := by decide +kernel
theorem dX9_scene_104 : decode cX9_scene 104 = .ok (.iconst 0, 1) := by decide +kernel
theorem dX9_scene_105 : decode cX9_scene 105 = .ok (.ireturn, 1) := by decide +kernel
theorem dX9_scene_106 : decode cX9_scene 106 = .ok (.aload_n 0, 1) := by decide +kernel
theorem dX9_scene_107 : decode cX9_scene 107 = .ok (.iload_n 1, 1) := by decide +kernel
theorem dX9_scene_108 : decode cX9_scene 108 = .ok (.invokevirtual 187, 3) := by decide +kernel
theorem dX9_scene_111 : decode cX9_scene 111 = .ok (.ireturn, 1) := by decide +kernel
theorem dX9_scene_112 : decode cX9_scene 112 = .ok (.aload_n 0, 1) := by decide +kernel
theorem dX9_scene_113 : decode cX9_scene 113 = .ok (.iload_n 1, 1) := by decide +kernel
theorem dX9_scene_114 : decode cX9_scene 114 = .ok (.invokevirtual 190, 3) := by decide +kernel
theorem dX9_scene_117 : decode cX9_scene 117 = .ok (.ireturn, 1) := by decide +kernel
theorem dX9_scene_118 : decode cX9_scene 118 = .ok (.bipush (-2), 2) := by decide +kernel
theorem dX9_scene_120 : decode cX9_scene 120 = .ok (.ireturn, 1) := by decide +kernel
set_option maxRecDepth 20000 in
theorem ggX9_tension_X9_in : GoodIn wsX9_tension wsX9_in := goodIn_r _ [6] (by decide +kernel) (by decide +kernel)
set_option maxRecDepth 20000 in
theorem gX9_tension_X9_in : GoodIn wsX9_tension (va_wsS RX9 48 yX9_in wsX9_in) := goodIn_app (goodIn_of _ (by decide +kernel)) ggX9_tension_X9_in
set_option maxRecDepth 20000 in
theorem ggX9_tension_X9_row : GoodIn wsX9_tension wsX9_row := goodIn_r _ [9] (by decide +kernel) (by decide +kernel)
set_option maxRecDepth 20000 in
theorem gX9_tension_X9_row : GoodIn wsX9_tension (va_wsS RX9 55 yX9_row wsX9_row) := goodIn_app (goodIn_of _ (by decide +kernel)) ggX9_tension_X9_row
set_option maxRecDepth 20000 in
theorem ggX9_tension_X9_tensionIn : GoodIn wsX9_tension wsX9_tensionIn := goodIn_r _ [13, 1, 7, 8, 5, 9, 14, 15, 16, 17, 18, 19, 20, 21, 22, 23, 24, 25, 26, 27, 28, 29, 30, 31, 32, 33, 34, 35, 36, 37, 38, 39] (by decide +kernel) (by decide +kernel)
set_option maxRecDepth 20000 in
theorem gX9_tension_X9_tensionIn : GoodIn wsX9_tension (wsV RX9 173 RX9 yX9_tensionIn wsX9_tensionIn) := goodIn_app (goodIn_of _ (by decide +kernel)) ggX9_tension_X9_tensionIn
theorem dX9_tension_0 : decode cX9_tension 0 = .ok (.iload_n 1, 1) := by decide +kernel
theorem dX9_tension_1 : decode cX9_tension 1 = .ok (.iconst 0, 1) := by decide +kernel
theorem dX9_tension_2 : decode cX9_tension 2 = .ok (.bipush 15, 2) := by decide +kernel
theorem dX9_tension_4 : decode cX9_tension 4 = .ok (.invokestatic 48, 3) := by decide +kernel
theorem dX9_tension_7 : decode cX9_tension 7 = .ok (.ifCond .eq 23, 3) := by decide +kernel
theorem dX9_tension_10 : decode cX9_tension 10 = .ok (.aload_n 0, 1) := by decide +kernel
theorem dX9_tension_11 : decode cX9_tension 11 = .ok (.getfield 7, 3) := by decide +kernel
theorem dX9_tension_14 : decode cX9_tension 14 = .ok (.iload_n 1, 1) := by decide +kernel
theorem dX9_tension_15 : decode cX9_tension 15 = .ok (.invokestatic 55, 3) := by decide +kernel
theorem dX9_tension_18 : decode cX9_tension 18 = .ok (.iaload, 1) := by decide +kernel
theorem dX9_tension_19 : decode cX9_tension 19 = .ok (.ifCond .le 11, 3) := by decide +kernel
theorem dX9_tension_22 : decode cX9_tension 22 = .ok (.aload_n 0, 1) := by decide +kernel
theorem dX9_tension_23 : decode cX9_tension 23 = .ok (.iload_n 1, 1) := by decide +kernel
theorem dX9_tension_24 : decode cX9_tension 24 = .ok (.invokevirtual 173, 3) := by decide +kernel
theorem dX9_tension_27 : decode cX9_tension 27 = .ok (.goto 5, 3) := by decide +kernel
theorem dX9_tension_30 : decode cX9_tension 30 = .ok (.ldc 193, 2) := by decide +kernel
theorem dX9_tension_32 : decode cX9_tension 32 = .ok (.freturn, 1) := by decide +kernel
set_option maxRecDepth 20000 in
theorem ggX9_broken_X9_row : GoodIn wsX9_broken wsX9_row := goodIn_r _ [5] (by decide +kernel) (by decide +kernel)
set_option maxRecDepth 20000 in
theorem gX9_broken_X9_row : GoodIn wsX9_broken (va_wsS RX9 55 yX9_row wsX9_row) := goodIn_app (goodIn_of _ (by decide +kernel)) ggX9_broken_X9_row
set_option maxRecDepth 20000 in
theorem ggX9_broken_X9_of : GoodIn wsX9_broken wsX9_of := goodIn_r _ [9, 1, 31, 32, 33, 34, 35, 36, 37, 38, 39, 40, 41, 42, 43, 44, 45, 46, 47, 48] (by decide +kernel) (by decide +kernel)
set_option maxRecDepth 20000 in
theorem gX9_broken_X9_of : GoodIn wsX9_broken (wsV RX9 65 RX9 yX9_of wsX9_of) := goodIn_app (goodIn_of _ (by decide +kernel)) ggX9_broken_X9_of
set_option maxRecDepth 20000 in
theorem ggX9_broken_X9_breaks : GoodIn wsX9_broken wsX9_breaks := goodIn_r _ [13, 14, 15, 16, 17, 18, 4, 19, 20, 21, 22, 23, 24, 25, 26, 1, 2, 3, 5, 6, 7, 8, 9, 27, 28, 29, 30, 31, 32, 33, 34, 35, 36, 37, 38, 39, 40, 41, 42, 43, 44, 45, 46, 47, 48] (by decide +kernel) (by decide +kernel)
set_option maxRecDepth 20000 in
theorem gX9_broken_X9_breaks : GoodIn wsX9_broken (wsV RX9 76 RX9 yX9_breaks wsX9_breaks) := goodIn_app (goodIn_of _ (by decide +kernel)) ggX9_broken_X9_breaks
theorem dX9_broken_0 : decode cX9_broken 0 = .ok (.iload_n 1, 1) := by decide +kernel
theorem dX9_broken_1 : decode cX9_broken 1 = .ok (.ifCond .ge 6, 3) := by decide +kernel
theorem dX9_broken_4 : decode cX9_broken 4 = .ok (.bipush (-2), 2) := by decide +kernel
theorem dX9_broken_6 : decode cX9_broken 6 = .ok (.ireturn, 1) := by decide +kernel
theorem dX9_broken_7 : decode cX9_broken 7 = .ok (.iload_n 1, 1) := by decide +kernel
theorem dX9_broken_8 : decode cX9_broken 8 = .ok (.istore_n 2, 1) := by decide +kernel
theorem dX9_broken_9 : decode cX9_broken 9 = .ok (.iconst 0, 1) := by decide +kernel
theorem dX9_broken_10 : decode cX9_broken 10 = .ok (.istore_n 3, 1) := by decide +kernel
theorem dX9_broken_11 : decode cX9_broken 11 = .ok (.iload_n 3, 1) := by decide +kernel
theorem dX9_broken_12 : decode cX9_broken 12 = .ok (.bipush 16, 2) := by decide +kernel
theorem dX9_broken_14 : decode cX9_broken 14 = .ok (.if_icmp .ge 83, 3) := by decide +kernel
theorem dX9_broken_17 : decode cX9_broken 17 = .ok (.iconst 0, 1) := by decide +kernel
theorem dX9_broken_18 : decode cX9_broken 18 = .ok (.istore 4, 2) := by decide +kernel
theorem dX9_broken_20 : decode cX9_broken 20 = .ok (.iload 4, 2) := by decide +kernel
theorem dX9_broken_22 : decode cX9_broken 22 = .ok (.aload_n 0, 1) := by decide +kernel
theorem dX9_broken_23 : decode cX9_broken 23 = .ok (.getfield 7, 3) := by decide +kernel
theorem dX9_broken_26 : decode cX9_broken 26 = .ok (.iload_n 3, 1) := by decide +kernel
theorem dX9_broken_27 : decode cX9_broken 27 = .ok (.invokestatic 55, 3) := by decide +kernel
theorem dX9_broken_30 : decode cX9_broken 30 = .ok (.iaload, 1) := by decide +kernel
theorem dX9_broken_31 : decode cX9_broken 31 = .ok (.if_icmp .ge 60, 3) := by decide +kernel
theorem dX9_broken_34 : decode cX9_broken 34 = .ok (.aload_n 0, 1) := by decide +kernel
theorem dX9_broken_35 : decode cX9_broken 35 = .ok (.getfield 7, 3) := by decide +kernel
theorem dX9_broken_38 : decode cX9_broken 38 = .ok (.iload_n 3, 1) := by decide +kernel
theorem dX9_broken_39 : decode cX9_broken 39 = .ok (.invokestatic 55, 3) := by decide +kernel
theorem dX9_broken_42 : decode cX9_broken 42 = .ok (.iconst 1, 1) := by decide +kernel
theorem dX9_broken_43 : decode cX9_broken 43 = .ok (.iadd, 1) := by decide +kernel
theorem dX9_broken_44 : decode cX9_broken 44 = .ok (.iload 4, 2) := by decide +kernel
theorem dX9_broken_46 : decode cX9_broken 46 = .ok (.iadd, 1) := by decide +kernel
theorem dX9_broken_47 : decode cX9_broken 47 = .ok (.iaload, 1) := by decide +kernel
theorem dX9_broken_48 : decode cX9_broken 48 = .ok (.istore 5, 2) := by decide +kernel
theorem dX9_broken_50 : decode cX9_broken 50 = .ok (.aload_n 0, 1) := by decide +kernel
theorem dX9_broken_51 : decode cX9_broken 51 = .ok (.aload_n 0, 1) := by decide +kernel
theorem dX9_broken_52 : decode cX9_broken 52 = .ok (.iload 5, 2) := by decide +kernel
theorem dX9_broken_54 : decode cX9_broken 54 = .ok (.iconst 0, 1) := by decide +kernel
theorem dX9_broken_55 : decode cX9_broken 55 = .ok (.invokevirtual 65, 3) := by decide +kernel
theorem dX9_broken_58 : decode cX9_broken 58 = .ok (.bipush (-5), 2) := by decide +kernel
theorem dX9_broken_60 : decode cX9_broken 60 = .ok (.iload 5, 2) := by decide +kernel
theorem dX9_broken_62 : decode cX9_broken 62 = .ok (.invokevirtual 76, 3) := by decide +kernel
theorem dX9_broken_65 : decode cX9_broken 65 = .ok (.istore 6, 2) := by decide +kernel
theorem dX9_broken_67 : decode cX9_broken 67 = .ok (.iload 6, 2) := by decide +kernel
theorem dX9_broken_69 : decode cX9_broken 69 = .ok (.iconst 1, 1) := by decide +kernel
theorem dX9_broken_70 : decode cX9_broken 70 = .ok (.if_icmp .ne 10, 3) := by decide +kernel
theorem dX9_broken_73 : decode cX9_broken 73 = .ok (.iload_n 2, 1) := by decide +kernel
theorem dX9_broken_74 : decode cX9_broken 74 = .ok (.ifCond .ne 6, 3) := by decide +kernel
theorem dX9_broken_77 : decode cX9_broken 77 = .ok (.iload 5, 2) := by decide +kernel
theorem dX9_broken_79 : decode cX9_broken 79 = .ok (.ireturn, 1) := by decide +kernel
theorem dX9_broken_80 : decode cX9_broken 80 = .ok (.iload_n 2, 1) := by decide +kernel
theorem dX9_broken_81 : decode cX9_broken 81 = .ok (.iload 6, 2) := by decide +kernel
theorem dX9_broken_83 : decode cX9_broken 83 = .ok (.isub, 1) := by decide +kernel
theorem dX9_broken_84 : decode cX9_broken 84 = .ok (.istore_n 2, 1) := by decide +kernel
theorem dX9_broken_85 : decode cX9_broken 85 = .ok (.iinc 4 1, 3) := by decide +kernel
theorem dX9_broken_88 : decode cX9_broken 88 = .ok (.goto (-68), 3) := by decide +kernel
theorem dX9_broken_91 : decode cX9_broken 91 = .ok (.iinc 3 1, 3) := by decide +kernel
theorem dX9_broken_94 : decode cX9_broken 94 = .ok (.goto (-83), 3) := by decide +kernel
theorem dX9_broken_97 : decode cX9_broken 97 = .ok (.bipush (-5), 2) := by decide +kernel
theorem dX9_broken_99 : decode cX9_broken 99 = .ok (.ireturn, 1) := by decide +kernel
set_option maxRecDepth 20000 in
theorem ggX9_tried_X9_takeOff : GoodIn wsX9_tried wsX9_takeOff := goodIn_r _ [7, 2, 8, 9, 10, 6, 11, 12, 13, 14, 15, 16, 17, 18, 48, 49, 50, 51, 52, 53, 54, 55, 56, 57, 58, 59, 60, 61, 62, 63, 64, 65] (by decide +kernel) (by decide +kernel)
set_option maxRecDepth 20000 in
theorem gX9_tried_X9_takeOff : GoodIn wsX9_tried (wsV RX9 128 RX9 yX9_takeOff wsX9_takeOff) := goodIn_app (goodIn_of _ (by decide +kernel)) ggX9_tried_X9_takeOff
set_option maxRecDepth 20000 in
theorem ggX9_tried_X9_putAt : GoodIn wsX9_tried wsX9_putAt := goodIn_r _ [22, 2, 12, 13, 6, 14, 48, 49, 50, 51, 52, 53, 54, 55, 56, 57, 58, 59, 60, 61, 62, 63, 64, 65] (by decide +kernel) (by decide +kernel)
set_option maxRecDepth 20000 in
theorem gX9_tried_X9_putAt : GoodIn wsX9_tried (wsV RX9 131 RX9 yX9_putAt wsX9_putAt) := goodIn_app (goodIn_of _ (by decide +kernel)) ggX9_tried_X9_putAt
set_option maxRecDepth 20000 in
theorem ggX9_tried_X9_allBreaks : GoodIn wsX9_tried wsX9_allBreaks := goodIn_r _ [26, 27, 28, 29, 6, 30, 31, 32, 33, 34, 35, 36, 37, 38, 39, 40, 41, 42, 43, 2, 12, 13, 14, 44, 45, 46, 47, 8, 9, 10, 11, 48, 49, 50, 51, 52, 53, 54, 55, 56, 57, 58, 59, 60, 61, 62, 63, 64, 65] (by decide +kernel) (by decide +kernel)
set_option maxRecDepth 20000 in
theorem gX9_tried_X9_allBreaks : GoodIn wsX9_tried (wsV RX9 135 RX9 yX9_allBreaks wsX9_allBreaks) := goodIn_app (goodIn_of _ (by decide +kernel)) ggX9_tried_X9_allBreaks
theorem dX9_tried_0 : decode cX9_tried 0 = .ok (.sipush 204, 3) := by decide +kernel
theorem dX9_tried_3 : decode cX9_tried 3 = .ok (.istore 4, 2) := by decide +kernel
theorem dX9_tried_5 : decode cX9_tried 5 = .ok (.iload 4, 2) := by decide +kernel
theorem dX9_tried_7 : decode cX9_tried 7 = .ok (.sipush 316, 3) := by decide +kernel
theorem dX9_tried_10 : decode cX9_tried 10 = .ok (.if_icmp .ge 23, 3) := by decide +kernel
theorem dX9_tried_13 : decode cX9_tried 13 = .ok (.aload_n 0, 1) := by decide +kernel
theorem dX9_tried_14 : decode cX9_tried 14 = .ok (.getfield 19, 3) := by decide +kernel
theorem dX9_tried_17 : decode cX9_tried 17 = .ok (.iload 4, 2) := by decide +kernel
theorem dX9_tried_19 : decode cX9_tried 19 = .ok (.aload_n 0, 1) := by decide +kernel
theorem dX9_tried_20 : decode cX9_tried 20 = .ok (.getfield 7, 3) := by decide +kernel
theorem dX9_tried_23 : decode cX9_tried 23 = .ok (.iload 4, 2) := by decide +kernel
theorem dX9_tried_25 : decode cX9_tried 25 = .ok (.iaload, 1) := by decide +kernel
theorem dX9_tried_26 : decode cX9_tried 26 = .ok (.iastore, 1) := by decide +kernel
theorem dX9_tried_27 : decode cX9_tried 27 = .ok (.iinc 4 1, 3) := by decide +kernel
theorem dX9_tried_30 : decode cX9_tried 30 = .ok (.goto (-25), 3) := by decide +kernel
theorem dX9_tried_33 : decode cX9_tried 33 = .ok (.aload_n 0, 1) := by decide +kernel
theorem dX9_tried_34 : decode cX9_tried 34 = .ok (.iload_n 1, 1) := by decide +kernel
theorem dX9_tried_35 : decode cX9_tried 35 = .ok (.invokevirtual 128, 3) := by decide +kernel
