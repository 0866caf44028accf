theorem dX3_read_87 : decode cX3_read 87 = .ok (.aload_n 0, 1) := by decide +kernel
theorem dX3_read_88 : decode cX3_read 88 = .ok (.aload_n 1, 1) := by decide +kernel
theorem dX3_read_89 : decode cX3_read 89 = .ok (.getfield 61, 3) := by decide +kernel
theorem dX3_read_92 : decode cX3_read 92 = .ok (.iload 4, 2) := by decide +kernel
theorem dX3_read_94 : decode cX3_read 94 = .ok (.iload_n 3, 1) := by decide +kernel
theorem dX3_read_95 : decode cX3_read 95 = .ok (.invokevirtual 66, 3) := by decide +kernel
theorem dX3_read_98 : decode cX3_read 98 = .ok (.iinc 3 1, 3) := by decide +kernel
theorem dX3_read_101 : decode cX3_read 101 = .ok (.goto (-39), 3) := by decide +kernel
theorem dX3_read_104 : decode cX3_read 104 = .ok (.return_, 1) := by decide +kernel
set_option maxRecDepth 20000 in
theorem ggX3_readCard_X1_number : GoodIn wsX3_readCard wsX1_number := goodIn_r _ [13, 14, 15, 16, 17, 12, 18, 19, 46, 47] (by decide +kernel) (by decide +kernel)
set_option maxRecDepth 20000 in
theorem gX3_readCard_X1_number : GoodIn wsX3_readCard (wsV RX3 70 RX1 yX1_number wsX1_number) := goodIn_app (goodIn_of _ (by decide +kernel)) ggX3_readCard_X1_number
set_option maxRecDepth 20000 in
theorem ggX3_readCard_X8_isThread : GoodIn wsX3_readCard wsX8_isThread := goodIn_r _ [22] (by decide +kernel) (by decide +kernel)
set_option maxRecDepth 20000 in
theorem gX3_readCard_X8_isThread_n74 : GoodIn wsX3_readCard (wsX8_isThread) := ggX3_readCard_X8_isThread
set_option maxRecDepth 20000 in
theorem ggX3_readCard_X1_appendFrom : GoodIn wsX3_readCard wsX1_appendFrom := goodIn_r _ [26, 19, 27, 28, 29, 12, 30, 31, 10, 11, 13, 14, 15, 16, 17, 18, 32, 33, 34, 35, 46, 47] (by decide +kernel) (by decide +kernel)
set_option maxRecDepth 20000 in
theorem gX3_readCard_X1_appendFrom : GoodIn wsX3_readCard (wsV RX3 77 RX1 yX1_appendFrom wsX1_appendFrom) := goodIn_app (goodIn_of _ (by decide +kernel)) ggX3_readCard_X1_appendFrom
theorem dX3_readCard_0 : decode cX3_readCard 0 = .ok (.aload_n 0, 1) := by decide +kernel
theorem dX3_readCard_1 : decode cX3_readCard 1 = .ok (.getfield 37, 3) := by decide +kernel
theorem dX3_readCard_4 : decode cX3_readCard 4 = .ok (.istore 4, 2) := by decide +kernel
theorem dX3_readCard_6 : decode cX3_readCard 6 = .ok (.aload_n 1, 1) := by decide +kernel
theorem dX3_readCard_7 : decode cX3_readCard 7 = .ok (.iload_n 2, 1) := by decide +kernel
theorem dX3_readCard_8 : decode cX3_readCard 8 = .ok (.iconst 0, 1) := by decide +kernel
theorem dX3_readCard_9 : decode cX3_readCard 9 = .ok (.invokevirtual 70, 3) := by decide +kernel
theorem dX3_readCard_12 : decode cX3_readCard 12 = .ok (.istore 5, 2) := by decide +kernel
theorem dX3_readCard_14 : decode cX3_readCard 14 = .ok (.iload 4, 2) := by decide +kernel
theorem dX3_readCard_16 : decode cX3_readCard 16 = .ok (.ifCond .lt 18, 3) := by decide +kernel
theorem dX3_readCard_19 : decode cX3_readCard 19 = .ok (.iload 4, 2) := by decide +kernel
theorem dX3_readCard_21 : decode cX3_readCard 21 = .ok (.bipush 40, 2) := by decide +kernel
theorem dX3_readCard_23 : decode cX3_readCard 23 = .ok (.if_icmp .ge 11, 3) := by decide +kernel
theorem dX3_readCard_26 : decode cX3_readCard 26 = .ok (.iload 5, 2) := by decide +kernel
theorem dX3_readCard_28 : decode cX3_readCard 28 = .ok (.invokestatic 74, 3) := by decide +kernel
theorem dX3_readCard_31 : decode cX3_readCard 31 = .ok (.ifCond .ne 4, 3) := by decide +kernel
theorem dX3_readCard_34 : decode cX3_readCard 34 = .ok (.return_, 1) := by decide +kernel
theorem dX3_readCard_35 : decode cX3_readCard 35 = .ok (.aload_n 0, 1) := by decide +kernel
theorem dX3_readCard_36 : decode cX3_readCard 36 = .ok (.dup, 1) := by decide +kernel
theorem dX3_readCard_37 : decode cX3_readCard 37 = .ok (.getfield 37, 3) := by decide +kernel
theorem dX3_readCard_40 : decode cX3_readCard 40 = .ok (.iconst 1, 1) := by decide +kernel
theorem dX3_readCard_41 : decode cX3_readCard 41 = .ok (.iadd, 1) := by decide +kernel
theorem dX3_readCard_42 : decode cX3_readCard 42 = .ok (.putfield 37, 3) := by decide +kernel
theorem dX3_readCard_45 : decode cX3_readCard 45 = .ok (.aload_n 0, 1) := by decide +kernel
theorem dX3_readCard_46 : decode cX3_readCard 46 = .ok (.getfield 12, 3) := by decide +kernel
theorem dX3_readCard_49 : decode cX3_readCard 49 = .ok (.aload_n 1, 1) := by decide +kernel
theorem dX3_readCard_50 : decode cX3_readCard 50 = .ok (.iload_n 2, 1) := by decide +kernel
theorem dX3_readCard_51 : decode cX3_readCard 51 = .ok (.invokevirtual 77, 3) := by decide +kernel
theorem dX3_readCard_54 : decode cX3_readCard 54 = .ok (.aload_n 0, 1) := by decide +kernel
theorem dX3_readCard_55 : decode cX3_readCard 55 = .ok (.getfield 18, 3) := by decide +kernel
theorem dX3_readCard_58 : decode cX3_readCard 58 = .ok (.iload 4, 2) := by decide +kernel
theorem dX3_readCard_60 : decode cX3_readCard 60 = .ok (.iload_n 2, 1) := by decide +kernel
theorem dX3_readCard_61 : decode cX3_readCard 61 = .ok (.iastore, 1) := by decide +kernel
theorem dX3_readCard_62 : decode cX3_readCard 62 = .ok (.aload_n 0, 1) := by decide +kernel
theorem dX3_readCard_63 : decode cX3_readCard 63 = .ok (.getfield 22, 3) := by decide +kernel
theorem dX3_readCard_66 : decode cX3_readCard 66 = .ok (.iload 4, 2) := by decide +kernel
theorem dX3_readCard_68 : decode cX3_readCard 68 = .ok (.iload_n 3, 1) := by decide +kernel
theorem dX3_readCard_69 : decode cX3_readCard 69 = .ok (.iastore, 1) := by decide +kernel
theorem dX3_readCard_70 : decode cX3_readCard 70 = .ok (.aload_n 0, 1) := by decide +kernel
theorem dX3_readCard_71 : decode cX3_readCard 71 = .ok (.getfield 25, 3) := by decide +kernel
theorem dX3_readCard_74 : decode cX3_readCard 74 = .ok (.iload 4, 2) := by decide +kernel
theorem dX3_readCard_76 : decode cX3_readCard 76 = .ok (.aload_n 0, 1) := by decide +kernel
theorem dX3_readCard_77 : decode cX3_readCard 77 = .ok (.getfield 31, 3) := by decide +kernel
theorem dX3_readCard_80 : decode cX3_readCard 80 = .ok (.iload 5, 2) := by decide +kernel
theorem dX3_readCard_82 : decode cX3_readCard 82 = .ok (.iaload, 1) := by decide +kernel
theorem dX3_readCard_83 : decode cX3_readCard 83 = .ok (.iastore, 1) := by decide +kernel
theorem dX3_readCard_84 : decode cX3_readCard 84 = .ok (.aload_n 0, 1) := by decide +kernel
theorem dX3_readCard_85 : decode cX3_readCard 85 = .ok (.getfield 31, 3) := by decide +kernel
theorem dX3_readCard_88 : decode cX3_readCard 88 = .ok (.iload 5, 2) := by decide +kernel
theorem dX3_readCard_90 : decode cX3_readCard 90 = .ok (.iload 4, 2) := by decide +kernel
theorem dX3_readCard_92 : decode cX3_readCard 92 = .ok (.iastore, 1) := by decide +kernel
theorem dX3_readCard_93 : decode cX3_readCard 93 = .ok (.aload_n 1, 1) := by decide +kernel
theorem dX3_readCard_94 : decode cX3_readCard 94 = .ok (.iload_n 2, 1) := by decide +kernel
theorem dX3_readCard_95 : decode cX3_readCard 95 = .ok (.iconst 4, 1) := by decide +kernel
theorem dX3_readCard_96 : decode cX3_readCard 96 = .ok (.invokevirtual 70, 3) := by decide +kernel
theorem dX3_readCard_99 : decode cX3_readCard 99 = .ok (.iconst 1, 1) := by decide +kernel
theorem dX3_readCard_100 : decode cX3_readCard 100 = .ok (.if_icmp .ne 15, 3) := by decide +kernel
theorem dX3_readCard_103 : decode cX3_readCard 103 = .ok (.aload_n 0, 1) := by decide +kernel
theorem dX3_readCard_104 : decode cX3_readCard 104 = .ok (.getfield 28, 3) := by decide +kernel
theorem dX3_readCard_107 : decode cX3_readCard 107 = .ok (.iload 4, 2) := by decide +kernel
theorem dX3_readCard_109 : decode cX3_readCard 109 = .ok (.bipush (-5), 2) := by decide +kernel
theorem dX3_readCard_111 : decode cX3_readCard 111 = .ok (.iastore, 1) := by decide +kernel
theorem dX3_readCard_112 : decode cX3_readCard 112 = .ok (.goto 26, 3) := by decide +kernel
theorem dX3_readCard_115 : decode cX3_readCard 115 = .ok (.aload_n 0, 1) := by decide +kernel
theorem dX3_readCard_116 : decode cX3_readCard 116 = .ok (.getfield 28, 3) := by decide +kernel
theorem dX3_readCard_119 : decode cX3_readCard 119 = .ok (.iload 4, 2) := by decide +kernel
theorem dX3_readCard_121 : decode cX3_readCard 121 = .ok (.aload_n 0, 1) := by decide +kernel
theorem dX3_readCard_122 : decode cX3_readCard 122 = .ok (.getfield 34, 3) := by decide +kernel
theorem dX3_readCard_125 : decode cX3_readCard 125 = .ok (.iload 5, 2) := by decide +kernel
theorem dX3_readCard_127 : decode cX3_readCard 127 = .ok (.iaload, 1) := by decide +kernel
theorem dX3_readCard_128 : decode cX3_readCard 128 = .ok (.iastore, 1) := by decide +kernel
theorem dX3_readCard_129 : decode cX3_readCard 129 = .ok (.aload_n 0, 1) := by decide +kernel
theorem dX3_readCard_130 : decode cX3_readCard 130 = .ok (.getfield 34, 3) := by decide +kernel
theorem dX3_readCard_133 : decode cX3_readCard 133 = .ok (.iload 5, 2) := by decide +kernel
theorem dX3_readCard_135 : decode cX3_readCard 135 = .ok (.iload 4, 2) := by decide +kernel
theorem dX3_readCard_137 : decode cX3_readCard 137 = .ok (.iastore, 1) := by decide +kernel
theorem dX3_readCard_138 : decode cX3_readCard 138 = .ok (.return_, 1) := by decide +kernel
theorem dX3_size_0 : decode cX3_size 0 = .ok (.aload_n 0, 1) := by decide +kernel
theorem dX3_size_1 : decode cX3_size 1 = .ok (.getfield 37, 3) := by decide +kernel
theorem dX3_size_4 : decode cX3_size 4 = .ok (.ireturn, 1) := by decide +kernel
theorem dX3_valueAt_0 : decode cX3_valueAt 0 = .ok (.iload_n 2, 1) := by decide +kernel
theorem dX3_valueAt_1 : decode cX3_valueAt 1 = .ok (.ifCond .lt 23, 3) := by decide +kernel
theorem dX3_valueAt_4 : decode cX3_valueAt 4 = .ok (.iload_n 2, 1) := by decide +kernel
theorem dX3_valueAt_5 : decode cX3_valueAt 5 = .ok (.aload_n 0, 1) := by decide +kernel
theorem dX3_valueAt_6 : decode cX3_valueAt 6 = .ok (.getfield 37, 3) := by decide +kernel
theorem dX3_valueAt_9 : decode cX3_valueAt 9 = .ok (.if_icmp .ge 15, 3) := by decide +kernel
theorem dX3_valueAt_12 : decode cX3_valueAt 12 = .ok (.iload_n 2, 1) := by decide +kernel
theorem dX3_valueAt_13 : decode cX3_valueAt 13 = .ok (.aload_n 1, 1) := by decide +kernel
theorem dX3_valueAt_14 : decode cX3_valueAt 14 = .ok (.arraylength, 1) := by decide +kernel
theorem dX3_valueAt_15 : decode cX3_valueAt 15 = .ok (.if_icmp .ge 9, 3) := by decide +kernel
theorem dX3_valueAt_18 : decode cX3_valueAt 18 = .ok (.aload_n 1, 1) := by decide +kernel
theorem dX3_valueAt_19 : decode cX3_valueAt 19 = .ok (.iload_n 2, 1) := by decide +kernel
theorem dX3_valueAt_20 : decode cX3_valueAt 20 = .ok (.iaload, 1) := by decide +kernel
theorem dX3_valueAt_21 : decode cX3_valueAt 21 = .ok (.goto 5, 3) := by decide +kernel
theorem dX3_valueAt_24 : decode cX3_valueAt 24 = .ok (.bipush (-5), 2) := by decide +kernel
theorem dX3_valueAt_26 : decode cX3_valueAt 26 = .ok (.ireturn, 1) := by decide +kernel
set_option maxRecDepth 20000 in
theorem ggX3_cardAt_X3_valueAt : GoodIn wsX3_cardAt wsX3_valueAt := goodIn_r _ [6, 7, 8, 9, 10, 11, 12, 13, 14, 15, 16, 17] (by decide +kernel) (by decide +kernel)
set_option maxRecDepth 20000 in
theorem gX3_cardAt_X3_valueAt : GoodIn wsX3_cardAt (wsV RX3 81 RX3 yX3_valueAt wsX3_valueAt) := goodIn_app (goodIn_of _ (by decide +kernel)) ggX3_cardAt_X3_valueAt
theorem dX3_cardAt_0 : decode cX3_cardAt 0 = .ok (.aload_n 0, 1) := by decide +kernel
theorem dX3_cardAt_1 : decode cX3_cardAt 1 = .ok (.aload_n 0, 1) := by decide +kernel
theorem dX3_cardAt_2 : decode cX3_cardAt 2 = .ok (.getfield 18, 3) := by decide +kernel
theorem dX3_cardAt_5 : decode cX3_cardAt 5 = .ok (.iload_n 1, 1) := by decide +kernel
theorem dX3_cardAt_6 : decode cX3_cardAt 6 = .ok (.invokevirtual 81, 3) := by decide +kernel
theorem dX3_cardAt_9 : decode cX3_cardAt 9 = .ok (.ireturn, 1) := by decide +kernel
set_option maxRecDepth 20000 in
theorem ggX3_slotAt_X3_valueAt : GoodIn wsX3_slotAt wsX3_valueAt := goodIn_r _ [6, 7, 8, 9, 10, 11, 12, 13, 14, 15, 16, 17] (by decide +kernel) (by decide +kernel)
set_option maxRecDepth 20000 in
theorem gX3_slotAt_X3_valueAt : GoodIn wsX3_slotAt (wsV RX3 81 RX3 yX3_valueAt wsX3_valueAt) := goodIn_app (goodIn_of _ (by decide +kernel)) ggX3_slotAt_X3_valueAt
theorem dX3_slotAt_0 : decode cX3_slotAt 0 = .ok (.aload_n 0, 1) := by decide +kernel
theorem dX3_slotAt_1 : decode cX3_slotAt 1 = .ok (.aload_n 0, 1) := by decide +kernel
theorem dX3_slotAt_2 : decode cX3_slotAt 2 = .ok (.getfield 22, 3) := by decide +kernel
theorem dX3_slotAt_5 : decode cX3_slotAt 5 = .ok (.iload_n 1, 1) := by decide +kernel
theorem dX3_slotAt_6 : decode cX3_slotAt 6 = .ok (.invokevirtual 81, 3) := by decide +kernel
theorem dX3_slotAt_9 : decode cX3_slotAt 9 = .ok (.ireturn, 1) := by decide +kernel
set_option maxRecDepth 20000 in
theorem ggX3_sceneAt_X3_valueAt : GoodIn wsX3_sceneAt wsX3_valueAt := goodIn_r _ [6, 7, 8, 9, 10, 11, 12, 13, 14, 15, 16, 17] (by decide +kernel) (by decide +kernel)
set_option maxRecDepth 20000 in
theorem gX3_sceneAt_X3_valueAt : GoodIn wsX3_sceneAt (wsV RX3 81 RX3 yX3_valueAt wsX3_valueAt) := goodIn_app (goodIn_of _ (by decide +kernel)) ggX3_sceneAt_X3_valueAt
theorem dX3_sceneAt_0 : decode cX3_sceneAt 0 = .ok (.aload_n 0, 1) := by decide +kernel
theorem dX3_sceneAt_1 : decode cX3_sceneAt 1 = .ok (.aload_n 0, 1) := by decide +kernel
theorem dX3_sceneAt_2 : decode cX3_sceneAt 2 = .ok (.getfield 22, 3) := by decide +kernel
theorem dX3_sceneAt_5 : decode cX3_sceneAt 5 = .ok (.iload_n 1, 1) := by decide +kernel
theorem dX3_sceneAt_6 : decode cX3_sceneAt 6 = .ok (.invokevirtual 81, 3) := by decide +kernel
theorem dX3_sceneAt_9 : decode cX3_sceneAt 9 = .ok (.istore_n 2, 1) := by decide +kernel
theorem dX3_sceneAt_10 : decode cX3_sceneAt 10 = .ok (.iload_n 2, 1) := by decide +kernel
theorem dX3_sceneAt_11 : decode cX3_sceneAt 11 = .ok (.bipush (-5), 2) := by decide +kernel
theorem dX3_sceneAt_13 : decode cX3_sceneAt 13 = .ok (.if_icmp .ne 8, 3) := by decide +kernel
theorem dX3_sceneAt_16 : decode cX3_sceneAt 16 = .ok (.bipush (-5), 2) := by decide +kernel
theorem dX3_sceneAt_18 : decode cX3_sceneAt 18 = .ok (.goto 7, 3) := by decide +kernel
theorem dX3_sceneAt_21 : decode cX3_sceneAt 21 = .ok (.iload_n 2, 1) := by decide +kernel
theorem dX3_sceneAt_22 : decode cX3_sceneAt 22 = .ok (.bipush 6, 2) := by decide +kernel
theorem dX3_sceneAt_24 : decode cX3_sceneAt 24 = .ok (.idiv, 1) := by decide +kernel
theorem dX3_sceneAt_25 : decode cX3_sceneAt 25 = .ok (.ireturn, 1) := by decide +kernel
set_option maxRecDepth 20000 in
theorem ggX3_placeAt_X3_valueAt : GoodIn wsX3_placeAt wsX3_valueAt := goodIn_r _ [6, 7, 8, 9, 10, 11, 12, 13, 14, 15, 16, 17] (by decide +kernel) (by decide +kernel)
set_option maxRecDepth 20000 in
theorem gX3_placeAt_X3_valueAt : GoodIn wsX3_placeAt (wsV RX3 81 RX3 yX3_valueAt wsX3_valueAt) := goodIn_app (goodIn_of _ (by decide +kernel)) ggX3_placeAt_X3_valueAt
theorem dX3_placeAt_0 : decode cX3_placeAt 0 = .ok (.aload_n 0, 1) := by decide +kernel
theorem dX3_placeAt_1 : decode cX3_placeAt 1 = .ok (.aload_n 0, 1) := by decide +kernel
theorem dX3_placeAt_2 : decode cX3_placeAt 2 = .ok (.getfield 22, 3) := by decide +kernel
theorem dX3_placeAt_5 : decode cX3_placeAt 5 = .ok (.iload_n 1, 1) := by decide +kernel
theorem dX3_placeAt_6 : decode cX3_placeAt 6 = .ok (.invokevirtual 81, 3) := by decide +kernel
theorem dX3_placeAt_9 : decode cX3_placeAt 9 = .ok (.istore_n 2, 1) := by decide +kernel
theorem dX3_placeAt_10 : decode cX3_placeAt 10 = .ok (.iload_n 2, 1) := by decide +kernel
theorem dX3_placeAt_11 : decode cX3_placeAt 11 = .ok (.bipush (-5), 2) := by decide +kernel
theorem dX3_placeAt_13 : decode cX3_placeAt 13 = .ok (.if_icmp .ne 8, 3) := by decide +kernel
theorem dX3_placeAt_16 : decode cX3_placeAt 16 = .ok (.bipush (-5), 2) := by decide +kernel
theorem dX3_placeAt_18 : decode cX3_placeAt 18 = .ok (.goto 7, 3) := by decide +kernel
theorem dX3_placeAt_21 : decode cX3_placeAt 21 = .ok (.iload_n 2, 1) := by decide +kernel
theorem dX3_placeAt_22 : decode cX3_placeAt 22 = .ok (.bipush 6, 2) := by decide +kernel
theorem dX3_placeAt_24 : decode cX3_placeAt 24 = .ok (.irem, 1) := by decide +kernel
theorem dX3_placeAt_25 : decode cX3_placeAt 25 = .ok (.ireturn, 1) := by decide +kernel
set_option maxRecDepth 20000 in
theorem ggX3_rankAhead_X3_valueAt : GoodIn wsX3_rankAhead wsX3_valueAt := goodIn_r _ [6, 7, 8, 9, 10, 11, 12, 13, 14, 15, 16, 17] (by decide +kernel) (by decide +kernel)
set_option maxRecDepth 20000 in
theorem gX3_rankAhead_X3_valueAt : GoodIn wsX3_rankAhead (wsV RX3 81 RX3 yX3_valueAt wsX3_valueAt) := goodIn_app (goodIn_of _ (by decide +kernel)) ggX3_rankAhead_X3_valueAt
theorem dX3_rankAhead_0 : decode cX3_rankAhead 0 = .ok (.aload_n 0, 1) := by decide +kernel
theorem dX3_rankAhead_1 : decode cX3_rankAhead 1 = .ok (.aload_n 0, 1) := by decide +kernel
theorem dX3_rankAhead_2 : decode cX3_rankAhead 2 = .ok (.getfield 25, 3) := by decide +kernel
theorem dX3_rankAhead_5 : decode cX3_rankAhead 5 = .ok (.iload_n 1, 1) := by decide +kernel
theorem dX3_rankAhead_6 : decode cX3_rankAhead 6 = .ok (.invokevirtual 81, 3) := by decide +kernel
theorem dX3_rankAhead_9 : decode cX3_rankAhead 9 = .ok (.ireturn, 1) := by decide +kernel
set_option maxRecDepth 20000 in
theorem ggX3_hourAt_X1_number : GoodIn wsX3_hourAt wsX1_number := goodIn_r _ [6, 7, 8, 9, 10, 5, 11, 12, 23, 24] (by decide +kernel) (by decide +kernel)
set_option maxRecDepth 20000 in
theorem gX3_hourAt_X1_number : GoodIn wsX3_hourAt (wsV RX3 70 RX1 yX1_number wsX1_number) := goodIn_app (goodIn_of _ (by decide +kernel)) ggX3_hourAt_X1_number
theorem dX3_hourAt_0 : decode cX3_hourAt 0 = .ok (.aload_n 0, 1) := by decide +kernel
theorem dX3_hourAt_1 : decode cX3_hourAt 1 = .ok (.getfield 12, 3) := by decide +kernel
theorem dX3_hourAt_4 : decode cX3_hourAt 4 = .ok (.iload_n 1, 1) := by decide +kernel
theorem dX3_hourAt_5 : decode cX3_hourAt 5 = .ok (.iconst 1, 1) := by decide +kernel
theorem dX3_hourAt_6 : decode cX3_hourAt 6 = .ok (.invokevirtual 70, 3) := by decide +kernel
theorem dX3_hourAt_9 : decode cX3_hourAt 9 = .ok (.ireturn, 1) := by decide +kernel
set_option maxRecDepth 20000 in
theorem ggX3_rankOf_X3_cardAt : GoodIn wsX3_rankOf wsX3_cardAt := goodIn_r _ [6, 7, 8, 9, 10, 5, 11, 1, 12, 13, 14, 15, 16, 17, 18, 19, 20, 21] (by decide +kernel) (by decide +kernel)
set_option maxRecDepth 20000 in
theorem gX3_rankOf_X3_cardAt : GoodIn wsX3_rankOf (wsV RX3 85 RX3 yX3_cardAt wsX3_cardAt) := goodIn_app (goodIn_of _ (by decide +kernel)) ggX3_rankOf_X3_cardAt
theorem dX3_rankOf_0 : decode cX3_rankOf 0 = .ok (.iconst 0, 1) := by decide +kernel
theorem dX3_rankOf_1 : decode cX3_rankOf 1 = .ok (.istore_n 2, 1) := by decide +kernel
theorem dX3_rankOf_2 : decode cX3_rankOf 2 = .ok (.iload_n 2, 1) := by decide +kernel
theorem dX3_rankOf_3 : decode cX3_rankOf 3 = .ok (.aload_n 0, 1) := by decide +kernel
theorem dX3_rankOf_4 : decode cX3_rankOf 4 = .ok (.getfield 37, 3) := by decide +kernel
theorem dX3_rankOf_7 : decode cX3_rankOf 7 = .ok (.if_icmp .ge 20, 3) := by decide +kernel
theorem dX3_rankOf_10 : decode cX3_rankOf 10 = .ok (.aload_n 0, 1) := by decide +kernel
theorem dX3_rankOf_11 : decode cX3_rankOf 11 = .ok (.iload_n 2, 1) := by decide +kernel
theorem dX3_rankOf_12 : decode cX3_rankOf 12 = .ok (.invokevirtual 85, 3) := by decide +kernel
theorem dX3_rankOf_15 : decode cX3_rankOf 15 = .ok (.iload_n 1, 1) := by decide +kernel
theorem dX3_rankOf_16 : decode cX3_rankOf 16 = .ok (.if_icmp .ne 5, 3) := by decide +kernel
theorem dX3_rankOf_19 : decode cX3_rankOf 19 = .ok (.iload_n 2, 1) := by decide +kernel
theorem dX3_rankOf_20 : decode cX3_rankOf 20 = .ok (.ireturn, 1) := by decide +kernel
theorem dX3_rankOf_21 : decode cX3_rankOf 21 = .ok (.iinc 2 1, 3) := by decide +kernel
theorem dX3_rankOf_24 : decode cX3_rankOf 24 = .ok (.goto (-22), 3) := by decide +kernel
theorem dX3_rankOf_27 : decode cX3_rankOf 27 = .ok (.bipush (-5), 2) := by decide +kernel
theorem dX3_rankOf_29 : decode cX3_rankOf 29 = .ok (.ireturn, 1) := by decide +kernel
set_option maxRecDepth 20000 in
theorem ggX3_isOf_X1_number : GoodIn wsX3_isOf wsX1_number := goodIn_r _ [6, 7, 8, 9, 10, 5, 11, 12, 23, 24] (by decide +kernel) (by decide +kernel)
set_option maxRecDepth 20000 in
theorem gX3_isOf_X1_number : GoodIn wsX3_isOf (wsV RX3 70 RX1 yX1_number wsX1_number) := goodIn_app (goodIn_of _ (by decide +kernel)) ggX3_isOf_X1_number
theorem dX3_isOf_0 : decode cX3_isOf 0 = .ok (.iload_n 2, 1) := by decide +kernel
theorem dX3_isOf_1 : decode cX3_isOf 1 = .ok (.iconst (-1), 1) := by decide +kernel
theorem dX3_isOf_2 : decode cX3_isOf 2 = .ok (.if_icmp .eq 16, 3) := by decide +kernel
theorem dX3_isOf_5 : decode cX3_isOf 5 = .ok (.aload_n 0, 1) := by decide +kernel
theorem dX3_isOf_6 : decode cX3_isOf 6 = .ok (.getfield 12, 3) := by decide +kernel
theorem dX3_isOf_9 : decode cX3_isOf 9 = .ok (.iload_n 1, 1) := by decide +kernel
theorem dX3_isOf_10 : decode cX3_isOf 10 = .ok (.iconst 0, 1) := by decide +kernel
theorem dX3_isOf_11 : decode cX3_isOf 11 = .ok (.invokevirtual 70, 3) := by decide +kernel
theorem dX3_isOf_14 : decode cX3_isOf 14 = .ok (.iload_n 2, 1) := by decide +kernel
theorem dX3_isOf_15 : decode cX3_isOf 15 = .ok (.if_icmp .ne 7, 3) := by decide +kernel
theorem dX3_isOf_18 : decode cX3_isOf 18 = .ok (.iconst 1, 1) := by decide +kernel
theorem dX3_isOf_19 : decode cX3_isOf 19 = .ok (.goto 4, 3) := by decide +kernel
theorem dX3_isOf_22 : decode cX3_isOf 22 = .ok (.iconst 0, 1) := by decide +kernel
theorem dX3_isOf_23 : decode cX3_isOf 23 = .ok (.ireturn, 1) := by decide +kernel
set_option maxRecDepth 20000 in
theorem ggX3_isStraight_X1_number : GoodIn wsX3_isStraight wsX1_number := goodIn_r _ [6, 7, 8, 9, 10, 5, 11, 12, 23, 24] (by decide +kernel) (by decide +kernel)
set_option maxRecDepth 20000 in
theorem gX3_isStraight_X1_number : GoodIn wsX3_isStraight (wsV RX3 70 RX1 yX1_number wsX1_number) := goodIn_app (goodIn_of _ (by decide +kernel)) ggX3_isStraight_X1_number
theorem dX3_isStraight_0 : decode cX3_isStraight 0 = .ok (.aload_n 0, 1) := by decide +kernel
theorem dX3_isStraight_1 : decode cX3_isStraight 1 = .ok (.getfield 12, 3) := by decide +kernel
theorem dX3_isStraight_4 : decode cX3_isStraight 4 = .ok (.iload_n 1, 1) := by decide +kernel
theorem dX3_isStraight_5 : decode cX3_isStraight 5 = .ok (.iconst 4, 1) := by decide +kernel
theorem dX3_isStraight_6 : decode cX3_isStraight 6 = .ok (.invokevirtual 70, 3) := by decide +kernel
theorem dX3_isStraight_9 : decode cX3_isStraight 9 = .ok (.ifCond .ne 7, 3) := by decide +kernel
theorem dX3_isStraight_12 : decode cX3_isStraight 12 = .ok (.iconst 1, 1) := by decide +kernel
theorem dX3_isStraight_13 : decode cX3_isStraight 13 = .ok (.goto 4, 3) := by decide +kernel
theorem dX3_isStraight_16 : decode cX3_isStraight 16 = .ok (.iconst 0, 1) := by decide +kernel
theorem dX3_isStraight_17 : decode cX3_isStraight 17 = .ok (.ireturn, 1) := by decide +kernel
set_option maxRecDepth 20000 in
theorem ggX3_isBreak_X3_valueAt : GoodIn wsX3_isBreak wsX3_valueAt := goodIn_r _ [7, 8, 20, 21, 22, 23, 24, 25, 26, 27, 28, 29] (by decide +kernel) (by decide +kernel)
set_option maxRecDepth 20000 in
theorem gX3_isBreak_X3_valueAt : GoodIn wsX3_isBreak (wsV RX3 81 RX3 yX3_valueAt wsX3_valueAt) := goodIn_app (goodIn_of _ (by decide +kernel)) ggX3_isBreak_X3_valueAt
set_option maxRecDepth 20000 in
theorem ggX3_isBreak_X1_number : GoodIn wsX3_isBreak wsX1_number := goodIn_r _ [13, 14, 15, 16, 17, 12, 18, 19, 30, 31] (by decide +kernel) (by decide +kernel)
set_option maxRecDepth 20000 in
theorem gX3_isBreak_X1_number : GoodIn wsX3_isBreak (wsV RX3 70 RX1 yX1_number wsX1_number) := goodIn_app (goodIn_of _ (by decide +kernel)) ggX3_isBreak_X1_number
theorem dX3_isBreak_0 : decode cX3_isBreak 0 = .ok (.aload_n 0, 1) := by decide +kernel
theorem dX3_isBreak_1 : decode cX3_isBreak 1 = .ok (.aload_n 0, 1) := by decide +kernel
theorem dX3_isBreak_2 : decode cX3_isBreak 2 = .ok (.getfield 28, 3) := by decide +kernel
theorem dX3_isBreak_5 : decode cX3_isBreak 5 = .ok (.iload_n 1, 1) := by decide +kernel
theorem dX3_isBreak_6 : decode cX3_isBreak 6 = .ok (.invokevirtual 81, 3) := by decide +kernel
theorem dX3_isBreak_9 : decode cX3_isBreak 9 = .ok (.istore_n 2, 1) := by decide +kernel
theorem dX3_isBreak_10 : decode cX3_isBreak 10 = .ok (.iload_n 2, 1) := by decide +kernel
theorem dX3_isBreak_11 : decode cX3_isBreak 11 = .ok (.bipush (-5), 2) := by decide +kernel
theorem dX3_isBreak_13 : decode cX3_isBreak 13 = .ok (.if_icmp .eq 28, 3) := by decide +kernel
theorem dX3_isBreak_16 : decode cX3_isBreak 16 = .ok (.aload_n 0, 1) := by decide +kernel
theorem dX3_isBreak_17 : decode cX3_isBreak 17 = .ok (.getfield 12, 3) := by decide +kernel
theorem dX3_isBreak_20 : decode cX3_isBreak 20 = .ok (.iload_n 1, 1) := by decide +kernel
theorem dX3_isBreak_21 : decode cX3_isBreak 21 = .ok (.iconst 1, 1) := by decide +kernel
theorem dX3_isBreak_22 : decode cX3_isBreak 22 = .ok (.invokevirtual 70, 3) := by decide +kernel
theorem dX3_isBreak_25 : decode cX3_isBreak 25 = .ok (.aload_n 0, 1) := by decide +kernel
theorem dX3_isBreak_26 : decode cX3_isBreak 26 = .ok (.getfield 12, 3) := by decide +kernel
theorem dX3_isBreak_29 : decode cX3_isBreak 29 = .ok (.iload_n 2, 1) := by decide +kernel
theorem dX3_isBreak_30 : decode cX3_isBreak 30 = .ok (.iconst 1, 1) := by decide +kernel
theorem dX3_isBreak_31 : decode cX3_isBreak 31 = .ok (.invokevirtual 70, 3) := by decide +kernel
theorem dX3_isBreak_34 : decode cX3_isBreak 34 = .ok (.if_icmp .ge 7, 3) := by decide +kernel
theorem dX3_isBreak_37 : decode cX3_isBreak 37 = .ok (.iconst 1, 1) := by decide +kernel
theorem dX3_isBreak_38 : decode cX3_isBreak 38 = .ok (.goto 4, 3) := by decide +kernel
theorem dX3_isBreak_41 : decode cX3_isBreak 41 = .ok (.iconst 0, 1) := by decide +kernel
theorem dX3_isBreak_42 : decode cX3_isBreak 42 = .ok (.ireturn, 1) := by decide +kernel
set_option maxRecDepth 20000 in
theorem ggX3_endsThreadHole_X3_rankAhead : GoodIn wsX3_endsThreadHole wsX3_rankAhead := goodIn_r _ [6, 7, 8, 9, 10, 5, 11, 12, 18, 19, 20, 21, 22, 23, 24, 25, 26, 27] (by decide +kernel) (by decide +kernel)
set_option maxRecDepth 20000 in
theorem gX3_endsThreadHole_X3_rankAhead : GoodIn wsX3_endsThreadHole (wsV RX3 86 RX3 yX3_rankAhead wsX3_rankAhead) := goodIn_app (goodIn_of _ (by decide +kernel)) ggX3_endsThreadHole_X3_rankAhead
set_option maxRecDepth 20000 in
theorem ggX3_endsThreadHole_X3_sceneAt : GoodIn wsX3_endsThreadHole wsX3_sceneAt := goodIn_r _ [16, 17, 8, 9, 10, 5, 11, 12, 18, 19, 20, 21, 22, 23, 24, 25, 26, 27] (by decide +kernel) (by decide +kernel)
set_option maxRecDepth 20000 in
theorem gX3_endsThreadHole_X3_sceneAt : GoodIn wsX3_endsThreadHole (wsV RX3 89 RX3 yX3_sceneAt wsX3_sceneAt) := goodIn_app (goodIn_of _ (by decide +kernel)) ggX3_endsThreadHole_X3_sceneAt
theorem dX3_endsThreadHole_0 : decode cX3_endsThreadHole 0 = .ok (.aload_n 0, 1) := by decide +kernel
theorem dX3_endsThreadHole_1 : decode cX3_endsThreadHole 1 = .ok (.iload_n 1, 1) := by decide +kernel
theorem dX3_endsThreadHole_2 : decode cX3_endsThreadHole 2 = .ok (.invokevirtual 86, 3) := by decide +kernel
theorem dX3_endsThreadHole_5 : decode cX3_endsThreadHole 5 = .ok (.istore_n 2, 1) := by decide +kernel
theorem dX3_endsThreadHole_6 : decode cX3_endsThreadHole 6 = .ok (.iload_n 2, 1) := by decide +kernel
theorem dX3_endsThreadHole_7 : decode cX3_endsThreadHole 7 = .ok (.bipush (-5), 2) := by decide +kernel
theorem dX3_endsThreadHole_9 : decode cX3_endsThreadHole 9 = .ok (.if_icmp .eq 27, 3) := by decide +kernel
theorem dX3_endsThreadHole_12 : decode cX3_endsThreadHole 12 = .ok (.aload_n 0, 1) := by decide +kernel
theorem dX3_endsThreadHole_13 : decode cX3_endsThreadHole 13 = .ok (.iload_n 1, 1) := by decide +kernel
theorem dX3_endsThreadHole_14 : decode cX3_endsThreadHole 14 = .ok (.invokevirtual 89, 3) := by decide +kernel
theorem dX3_endsThreadHole_17 : decode cX3_endsThreadHole 17 = .ok (.aload_n 0, 1) := by decide +kernel
theorem dX3_endsThreadHole_18 : decode cX3_endsThreadHole 18 = .ok (.iload_n 2, 1) := by decide +kernel
theorem dX3_endsThreadHole_19 : decode cX3_endsThreadHole 19 = .ok (.invokevirtual 89, 3) := by decide +kernel
theorem dX3_endsThreadHole_22 : decode cX3_endsThreadHole 22 = .ok (.isub, 1) := by decide +kernel
theorem dX3_endsThreadHole_23 : decode cX3_endsThreadHole 23 = .ok (.iconst 1, 1) := by decide +kernel
theorem dX3_endsThreadHole_24 : decode cX3_endsThreadHole 24 = .ok (.isub, 1) := by decide +kernel
theorem dX3_endsThreadHole_25 : decode cX3_endsThreadHole 25 = .ok (.aload_n 0, 1) := by decide +kernel
theorem dX3_endsThreadHole_26 : decode cX3_endsThreadHole 26 = .ok (.getfield 50, 3) := by decide +kernel
theorem dX3_endsThreadHole_29 : decode cX3_endsThreadHole 29 = .ok (.if_icmp .le 7, 3) := by decide +kernel
theorem dX3_endsThreadHole_32 : decode cX3_endsThreadHole 32 = .ok (.iconst 1, 1) := by decide +kernel
theorem dX3_endsThreadHole_33 : decode cX3_endsThreadHole 33 = .ok (.goto 4, 3) := by decide +kernel
theorem dX3_endsThreadHole_36 : decode cX3_endsThreadHole 36 = .ok (.iconst 0, 1) := by decide +kernel
theorem dX3_endsThreadHole_37 : decode cX3_endsThreadHole 37 = .ok (.ireturn, 1) := by decide +kernel
set_option maxRecDepth 20000 in
theorem ggX3_endsTimeHole_X3_valueAt : GoodIn wsX3_endsTimeHole wsX3_valueAt := goodIn_r _ [8, 9, 21, 22, 23, 24, 25, 26, 27, 28, 29, 30] (by decide +kernel) (by decide +kernel)
set_option maxRecDepth 20000 in
theorem gX3_endsTimeHole_X3_valueAt : GoodIn wsX3_endsTimeHole (wsV RX3 81 RX3 yX3_valueAt wsX3_valueAt) := goodIn_app (goodIn_of _ (by decide +kernel)) ggX3_endsTimeHole_X3_valueAt
set_option maxRecDepth 20000 in
theorem ggX3_endsTimeHole_X1_number : GoodIn wsX3_endsTimeHole wsX1_number := goodIn_r _ [14, 15, 16, 17, 18, 13, 19, 20, 31, 32] (by decide +kernel) (by decide +kernel)
set_option maxRecDepth 20000 in
theorem gX3_endsTimeHole_X1_number : GoodIn wsX3_endsTimeHole (wsV RX3 70 RX1 yX1_number wsX1_number) := goodIn_app (goodIn_of _ (by decide +kernel)) ggX3_endsTimeHole_X1_number
theorem dX3_endsTimeHole_0 : decode cX3_endsTimeHole 0 = .ok (.aload_n 0, 1) := by decide +kernel
theorem dX3_endsTimeHole_1 : decode cX3_endsTimeHole 1 = .ok (.aload_n 0, 1) := by decide +kernel
theorem dX3_endsTimeHole_2 : decode cX3_endsTimeHole 2 = .ok (.getfield 28, 3) := by decide +kernel
theorem dX3_endsTimeHole_5 : decode cX3_endsTimeHole 5 = .ok (.iload_n 1, 1) := by decide +kernel
theorem dX3_endsTimeHole_6 : decode cX3_endsTimeHole 6 = .ok (.invokevirtual 81, 3) := by decide +kernel
theorem dX3_endsTimeHole_9 : decode cX3_endsTimeHole 9 = .ok (.istore_n 2, 1) := by decide +kernel
theorem dX3_endsTimeHole_10 : decode cX3_endsTimeHole 10 = .ok (.iload_n 2, 1) := by decide +kernel
theorem dX3_endsTimeHole_11 : decode cX3_endsTimeHole 11 = .ok (.bipush (-5), 2) := by decide +kernel
theorem dX3_endsTimeHole_13 : decode cX3_endsTimeHole 13 = .ok (.if_icmp .eq 33, 3) := by decide +kernel
theorem dX3_endsTimeHole_16 : decode cX3_endsTimeHole 16 = .ok (.aload_n 0, 1) := by decide +kernel
theorem dX3_endsTimeHole_17 : decode cX3_endsTimeHole 17 = .ok (.getfield 12, 3) := by decide +kernel
theorem dX3_endsTimeHole_20 : decode cX3_endsTimeHole 20 = .ok (.iload_n 1, 1) := by decide +kernel
theorem dX3_endsTimeHole_21 : decode cX3_endsTimeHole 21 = .ok (.iconst 1, 1) := by decide +kernel
theorem dX3_endsTimeHole_22 : decode cX3_endsTimeHole 22 = .ok (.invokevirtual 70, 3) := by decide +kernel
theorem dX3_endsTimeHole_25 : decode cX3_endsTimeHole 25 = .ok (.aload_n 0, 1) := by decide +kernel
theorem dX3_endsTimeHole_26 : decode cX3_endsTimeHole 26 = .ok (.getfield 12, 3) := by decide +kernel
theorem dX3_endsTimeHole_29 : decode cX3_endsTimeHole 29 = .ok (.iload_n 2, 1) := by decide +kernel
theorem dX3_endsTimeHole_30 : decode cX3_endsTimeHole 30 = .ok (.iconst 1, 1) := by decide +kernel
theorem dX3_endsTimeHole_31 : decode cX3_endsTimeHole 31 = .ok (.invokevirtual 70, 3) := by decide +kernel
theorem dX3_endsTimeHole_34 : decode cX3_endsTimeHole 34 = .ok (.isub, 1) := by decide +kernel
theorem dX3_endsTimeHole_35 : decode cX3_endsTimeHole 35 = .ok (.aload_n 0, 1) := by decide +kernel
theorem dX3_endsTimeHole_36 : decode cX3_endsTimeHole 36 = .ok (.getfield 53, 3) := by decide +kernel
theorem dX3_endsTimeHole_39 : decode cX3_endsTimeHole 39 = .ok (.if_icmp .le 7, 3) := by decide +kernel
theorem dX3_endsTimeHole_42 : decode cX3_endsTimeHole 42 = .ok (.iconst 1, 1) := by decide +kernel
theorem dX3_endsTimeHole_43 : decode cX3_endsTimeHole 43 = .ok (.goto 4, 3) := by decide +kernel
theorem dX3_endsTimeHole_46 : decode cX3_endsTimeHole 46 = .ok (.iconst 0, 1) := by decide +kernel
theorem dX3_endsTimeHole_47 : decode cX3_endsTimeHole 47 = .ok (.ireturn, 1) := by decide +kernel
set_option maxRecDepth 20000 in
theorem ggX3_tally_X3_isOf : GoodIn wsX3_tally wsX3_isOf := goodIn_r _ [6, 7, 8, 9, 10, 11, 12, 13, 14, 15, 16, 17, 18, 56, 57, 58, 59, 60, 61, 62, 63, 64, 65, 66, 67] (by decide +kernel) (by decide +kernel)
set_option maxRecDepth 20000 in
theorem gX3_tally_X3_isOf : GoodIn wsX3_tally (wsV RX3 92 RX3 yX3_isOf wsX3_isOf) := goodIn_app (goodIn_of _ (by decide +kernel)) ggX3_tally_X3_isOf
set_option maxRecDepth 20000 in
theorem ggX3_tally_X3_sceneAt : GoodIn wsX3_tally wsX3_sceneAt := goodIn_r _ [22, 23, 24, 25, 26, 5, 27, 1, 56, 57, 58, 59, 60, 61, 62, 63, 64, 65] (by decide +kernel) (by decide +kernel)
set_option maxRecDepth 20000 in
theorem gX3_tally_X3_sceneAt : GoodIn wsX3_tally (wsV RX3 89 RX3 yX3_sceneAt wsX3_sceneAt) := goodIn_app (goodIn_of _ (by decide +kernel)) ggX3_tally_X3_sceneAt
set_option maxRecDepth 20000 in
theorem ggX3_tally_X3_worth : GoodIn wsX3_tally wsX3_worth := goodIn_r _ [31, 7, 8, 9, 10, 11, 12, 13, 14, 15, 16, 17, 18, 32, 33, 34, 5, 35, 36, 37, 38, 39, 40, 24, 25, 26, 27, 1, 41, 42, 43, 44, 45, 46, 47, 48, 49, 50, 19, 20, 21, 22, 23, 51, 52, 53, 54, 55, 56, 57, 58, 59, 60, 61, 62, 63, 64, 65, 66, 67] (by decide +kernel) (by decide +kernel)
set_option maxRecDepth 20000 in
theorem gX3_tally_X3_worth : GoodIn wsX3_tally (wsV RX3 96 RX3 yX3_worth wsX3_worth) := goodIn_app (goodIn_of _ (by decide +kernel)) ggX3_tally_X3_worth
theorem dX3_tally_0 : decode cX3_tally 0 = .ok (.iconst 0, 1) := by decide +kernel
theorem dX3_tally_1 : decode cX3_tally 1 = .ok (.istore 4, 2) := by decide +kernel
theorem dX3_tally_3 : decode cX3_tally 3 = .ok (.iconst 0, 1) := by decide +kernel
theorem dX3_tally_4 : decode cX3_tally 4 = .ok (.istore 5, 2) := by decide +kernel
theorem dX3_tally_6 : decode cX3_tally 6 = .ok (.iload 5, 2) := by decide +kernel
theorem dX3_tally_8 : decode cX3_tally 8 = .ok (.aload_n 0, 1) := by decide +kernel
theorem dX3_tally_9 : decode cX3_tally 9 = .ok (.getfield 37, 3) := by decide +kernel
theorem dX3_tally_12 : decode cX3_tally 12 = .ok (.if_icmp .ge 46, 3) := by decide +kernel
theorem dX3_tally_15 : decode cX3_tally 15 = .ok (.aload_n 0, 1) := by decide +kernel
theorem dX3_tally_16 : decode cX3_tally 16 = .ok (.iload 5, 2) := by decide +kernel
theorem dX3_tally_18 : decode cX3_tally 18 = .ok (.iload_n 2, 1) := by decide +kernel
theorem dX3_tally_19 : decode cX3_tally 19 = .ok (.invokevirtual 92, 3) := by decide +kernel
theorem dX3_tally_22 : decode cX3_tally 22 = .ok (.ifCond .eq 30, 3) := by decide +kernel
theorem dX3_tally_25 : decode cX3_tally 25 = .ok (.iload_n 3, 1) := by decide +kernel
theorem dX3_tally_26 : decode cX3_tally 26 = .ok (.iconst (-1), 1) := by decide +kernel
theorem dX3_tally_27 : decode cX3_tally 27 = .ok (.if_icmp .eq 13, 3) := by decide +kernel
theorem dX3_tally_30 : decode cX3_tally 30 = .ok (.aload_n 0, 1) := by decide +kernel
theorem dX3_tally_31 : decode cX3_tally 31 = .ok (.iload 5, 2) := by decide +kernel
theorem dX3_tally_33 : decode cX3_tally 33 = .ok (.invokevirtual 89, 3) := by decide +kernel
theorem dX3_tally_36 : decode cX3_tally 36 = .ok (.iload_n 3, 1) := by decide +kernel
theorem dX3_tally_37 : decode cX3_tally 37 = .ok (.if_icmp .ne 15, 3) := by decide +kernel
theorem dX3_tally_40 : decode cX3_tally 40 = .ok (.iload 4, 2) := by decide +kernel
theorem dX3_tally_42 : decode cX3_tally 42 = .ok (.aload_n 0, 1) := by decide +kernel
theorem dX3_tally_43 : decode cX3_tally 43 = .ok (.iload_n 1, 1) := by decide +kernel
theorem dX3_tally_44 : decode cX3_tally 44 = .ok (.iload 5, 2) := by decide +kernel
theorem dX3_tally_46 : decode cX3_tally 46 = .ok (.invokevirtual 96, 3) := by decide +kernel
theorem dX3_tally_49 : decode cX3_tally 49 = .ok (.iadd, 1) := by decide +kernel
theorem dX3_tally_50 : decode cX3_tally 50 = .ok (.istore 4, 2) := by decide +kernel
theorem dX3_tally_52 : decode cX3_tally 52 = .ok (.iinc 5 1, 3) := by decide +kernel
theorem dX3_tally_55 : decode cX3_tally 55 = .ok (.goto (-49), 3) := by decide +kernel
theorem dX3_tally_58 : decode cX3_tally 58 = .ok (.iload 4, 2) := by decide +kernel
theorem dX3_tally_60 : decode cX3_tally 60 = .ok (.ireturn, 1) := by decide +kernel
set_option maxRecDepth 20000 in
theorem ggX3_worth_X1_number : GoodIn wsX3_worth wsX1_number := goodIn_r _ [6, 7, 8, 9, 10, 5, 11, 12, 58, 59] (by decide +kernel) (by decide +kernel)
set_option maxRecDepth 20000 in
theorem gX3_worth_X1_number : GoodIn wsX3_worth (wsV RX3 70 RX1 yX1_number wsX1_number) := goodIn_app (goodIn_of _ (by decide +kernel)) ggX3_worth_X1_number
set_option maxRecDepth 20000 in
theorem ggX3_worth_X3_isStraight : GoodIn wsX3_worth wsX3_isStraight := goodIn_r _ [17, 1, 2, 3, 4, 5, 6, 7, 8, 9, 10, 11, 12, 48, 49, 50, 51, 52, 53, 54, 55, 56, 57, 58, 59] (by decide +kernel) (by decide +kernel)
set_option maxRecDepth 20000 in
theorem gX3_worth_X3_isStraight : GoodIn wsX3_worth (wsV RX3 99 RX3 yX3_isStraight wsX3_isStraight) := goodIn_app (goodIn_of _ (by decide +kernel)) ggX3_worth_X3_isStraight
set_option maxRecDepth 20000 in
theorem ggX3_worth_X3_isBreak : GoodIn wsX3_worth wsX3_isBreak := goodIn_r _ [21, 22, 1, 23, 24, 25, 16, 26, 27, 2, 3, 4, 5, 6, 7, 8, 9, 10, 11, 12, 48, 49, 50, 51, 52, 53, 54, 55, 56, 57, 58, 59] (by decide +kernel) (by decide +kernel)
set_option maxRecDepth 20000 in
theorem gX3_worth_X3_isBreak : GoodIn wsX3_worth (wsV RX3 102 RX3 yX3_isBreak wsX3_isBreak) := goodIn_app (goodIn_of _ (by decide +kernel)) ggX3_worth_X3_isBreak
set_option maxRecDepth 20000 in
theorem ggX3_worth_X3_endsThreadHole : GoodIn wsX3_worth wsX3_endsThreadHole := goodIn_r _ [31, 32, 33, 34, 35, 16, 36, 37, 23, 24, 25, 26, 27, 38, 39, 40, 41, 42, 48, 49, 50, 51, 52, 53, 54, 55, 56, 57] (by decide +kernel) (by decide +kernel)
set_option maxRecDepth 20000 in
theorem gX3_worth_X3_endsThreadHole : GoodIn wsX3_worth (wsV RX3 105 RX3 yX3_endsThreadHole wsX3_endsThreadHole) := goodIn_app (goodIn_of _ (by decide +kernel)) ggX3_worth_X3_endsThreadHole
set_option maxRecDepth 20000 in
theorem ggX3_worth_X3_endsTimeHole : GoodIn wsX3_worth wsX3_endsTimeHole := goodIn_r _ [46, 22, 1, 47, 23, 24, 25, 16, 26, 27, 2, 3, 4, 5, 6, 7, 8, 9, 10, 11, 12, 48, 49, 50, 51, 52, 53, 54, 55, 56, 57, 58, 59] (by decide +kernel) (by decide +kernel)
set_option maxRecDepth 20000 in
theorem gX3_worth_X3_endsTimeHole : GoodIn wsX3_worth (wsV RX3 108 RX3 yX3_endsTimeHole wsX3_endsTimeHole) := goodIn_app (goodIn_of _ (by decide +kernel)) ggX3_worth_X3_endsTimeHole
theorem dX3_worth_0 : decode cX3_worth 0 = .ok (.iload_n 1, 1) := by decide +kernel
theorem dX3_worth_1 : decode cX3_worth 1 = .ok (.tableswitch 135 2 14 #[69, 135, 135, 135, 135, 135, 135, 135, 67, 79, 93, 107, 121], 67) := by decide +kernel
theorem dX3_worth_68 : decode cX3_worth 68 = .ok (.iconst 1, 1) := by decide +kernel
theorem dX3_worth_69 : decode cX3_worth 69 = .ok (.ireturn, 1) := by decide +kernel
theorem dX3_worth_70 : decode cX3_worth 70 = .ok (.aload_n 0, 1) := by decide +kernel
theorem dX3_worth_71 : decode cX3_worth 71 = .ok (.getfield 12, 3) := by decide +kernel
theorem dX3_worth_74 : decode cX3_worth 74 = .ok (.iload_n 2, 1) := by decide +kernel
theorem dX3_worth_75 : decode cX3_worth 75 = .ok (.iconst 2, 1) := by decide +kernel
theorem dX3_worth_76 : decode cX3_worth 76 = .ok (.invokevirtual 70, 3) := by decide +kernel
theorem dX3_worth_79 : decode cX3_worth 79 = .ok (.ireturn, 1) := by decide +kernel
theorem dX3_worth_80 : decode cX3_worth 80 = .ok (.aload_n 0, 1) := by decide +kernel
theorem dX3_worth_81 : decode cX3_worth 81 = .ok (.iload_n 2, 1) := by decide +kernel
theorem dX3_worth_82 : decode cX3_worth 82 = .ok (.invokevirtual 99, 3) := by decide +kernel
theorem dX3_worth_85 : decode cX3_worth 85 = .ok (.ifCond .eq 7, 3) := by decide +kernel
theorem dX3_worth_88 : decode cX3_worth 88 = .ok (.iconst 1, 1) := by decide +kernel
theorem dX3_worth_89 : decode cX3_worth 89 = .ok (.goto 4, 3) := by decide +kernel
theorem dX3_worth_92 : decode cX3_worth 92 = .ok (.iconst 0, 1) := by decide +kernel
theorem dX3_worth_93 : decode cX3_worth 93 = .ok (.ireturn, 1) := by decide +kernel
theorem dX3_worth_94 : decode cX3_worth 94 = .ok (.aload_n 0, 1) := by decide +kernel
theorem dX3_worth_95 : decode cX3_worth 95 = .ok (.iload_n 2, 1) := by decide +kernel
theorem dX3_worth_96 : decode cX3_worth 96 = .ok (.invokevirtual 102, 3) := by decide +kernel
theorem dX3_worth_99 : decode cX3_worth 99 = .ok (.ifCond .eq 7, 3) := by decide +kernel
theorem dX3_worth_102 : decode cX3_worth 102 = .ok (.iconst 1, 1) := by decide +kernel
theorem dX3_worth_103 : decode cX3_worth 103 = .ok (.goto 4, 3) := by decide +kernel
theorem dX3_worth_106 : decode cX3_worth 106 = .ok (.iconst 0, 1) := by decide +kernel
theorem dX3_worth_107 : decode cX3_worth 107 = .ok (.ireturn, 1) := by decide +kernel
theorem dX3_worth_108 : decode cX3_worth 108 = .ok (.aload_n 0, 1) := by decide +kernel
theorem dX3_worth_109 : decode cX3_worth 109 = .ok (.iload_n 2, 1) := by decide +kernel
theorem dX3_worth_110 : decode cX3_worth 110 = .ok (.invokevirtual 105, 3) := by decide +kernel
theorem dX3_worth_113 : decode cX3_worth 113 = .ok (.ifCond .eq 7, 3) := by decide +kernel
theorem dX3_worth_116 : decode cX3_worth 116 = .ok (.iconst 1, 1) := by decide +kernel
theorem dX3_worth_117 : decode cX3_worth 117 = .ok (.goto 4, 3) := by decide +kernel
theorem dX3_worth_120 : decode cX3_worth 120 = .ok (.iconst 0, 1) := by decide +kernel
theorem dX3_worth_121 : decode cX3_worth 121 = .ok (.ireturn, 1) := by decide +kernel
theorem dX3_worth_122 : decode cX3_worth 122 = .ok (.aload_n 0, 1) := by decide +kernel
theorem dX3_worth_123 : decode cX3_worth 123 = .ok (.iload_n 2, 1) := by decide +kernel
theorem dX3_worth_124 : decode cX3_worth 124 = .ok (.invokevirtual 108, 3) := by decide +kernel
theorem dX3_worth_127 : decode cX3_worth 127 = .ok (.ifCond .eq 7, 3) := by decide +kernel
theorem dX3_worth_130 : decode cX3_worth 130 = .ok (.iconst 1, 1) := by decide +kernel
theorem dX3_worth_131 : decode cX3_worth 131 = .ok (.goto 4, 3) := by decide +kernel
theorem dX3_worth_134 : decode cX3_worth 134 = .ok (.iconst 0, 1) := by decide +kernel
theorem dX3_worth_135 : decode cX3_worth 135 = .ok (.ireturn, 1) := by decide +kernel
theorem dX3_worth_136 : decode cX3_worth 136 = .ok (.iconst 0, 1) := by decide +kernel
theorem dX3_worth_137 : decode cX3_worth 137 = .ok (.ireturn, 1) := by decide +kernel
set_option maxRecDepth 20000 in
theorem ggX3_threadsIn_X3_sceneAt : GoodIn wsX3_threadsIn wsX3_sceneAt := goodIn_r _ [7, 8, 9, 10, 11, 6, 12, 1, 24, 25, 26, 27, 28, 29, 30, 31, 32, 33] (by decide +kernel) (by decide +kernel)
set_option maxRecDepth 20000 in
theorem gX3_threadsIn_X3_sceneAt : GoodIn wsX3_threadsIn (wsV RX3 89 RX3 yX3_sceneAt wsX3_sceneAt) := goodIn_app (goodIn_of _ (by decide +kernel)) ggX3_threadsIn_X3_sceneAt
set_option maxRecDepth 20000 in
theorem ggX3_threadsIn_X1_number : GoodIn wsX3_threadsIn wsX1_number := goodIn_r _ [17, 18, 19, 20, 21, 16, 22, 23, 34, 35] (by decide +kernel) (by decide +kernel)
set_option maxRecDepth 20000 in
theorem gX3_threadsIn_X1_number : GoodIn wsX3_threadsIn (wsV RX3 70 RX1 yX1_number wsX1_number) := goodIn_app (goodIn_of _ (by decide +kernel)) ggX3_threadsIn_X1_number
theorem dX3_threadsIn_0 : decode cX3_threadsIn 0 = .ok (.iconst 0, 1) := by decide +kernel
theorem dX3_threadsIn_1 : decode cX3_threadsIn 1 = .ok (.istore_n 2, 1) := by decide +kernel
theorem dX3_threadsIn_2 : decode cX3_threadsIn 2 = .ok (.iconst 0, 1) := by decide +kernel
theorem dX3_threadsIn_3 : decode cX3_threadsIn 3 = .ok (.istore_n 3, 1) := by decide +kernel
theorem dX3_threadsIn_4 : decode cX3_threadsIn 4 = .ok (.iload_n 3, 1) := by decide +kernel
theorem dX3_threadsIn_5 : decode cX3_threadsIn 5 = .ok (.aload_n 0, 1) := by decide +kernel
theorem dX3_threadsIn_6 : decode cX3_threadsIn 6 = .ok (.getfield 37, 3) := by decide +kernel
theorem dX3_threadsIn_9 : decode cX3_threadsIn 9 = .ok (.if_icmp .ge 32, 3) := by decide +kernel
theorem dX3_threadsIn_12 : decode cX3_threadsIn 12 = .ok (.aload_n 0, 1) := by decide +kernel
theorem dX3_threadsIn_13 : decode cX3_threadsIn 13 = .ok (.iload_n 3, 1) := by decide +kernel
theorem dX3_threadsIn_14 : decode cX3_threadsIn 14 = .ok (.invokevirtual 89, 3) := by decide +kernel
theorem dX3_threadsIn_17 : decode cX3_threadsIn 17 = .ok (.iload_n 1, 1) := by decide +kernel
theorem dX3_threadsIn_18 : decode cX3_threadsIn 18 = .ok (.if_icmp .ne 17, 3) := by decide +kernel
theorem dX3_threadsIn_21 : decode cX3_threadsIn 21 = .ok (.iload_n 2, 1) := by decide +kernel
theorem dX3_threadsIn_22 : decode cX3_threadsIn 22 = .ok (.iconst 1, 1) := by decide +kernel
theorem dX3_threadsIn_23 : decode cX3_threadsIn 23 = .ok (.aload_n 0, 1) := by decide +kernel
theorem dX3_threadsIn_24 : decode cX3_threadsIn 24 = .ok (.getfield 12, 3) := by decide +kernel
theorem dX3_threadsIn_27 : decode cX3_threadsIn 27 = .ok (.iload_n 3, 1) := by decide +kernel
theorem dX3_threadsIn_28 : decode cX3_threadsIn 28 = .ok (.iconst 0, 1) := by decide +kernel
theorem dX3_threadsIn_29 : decode cX3_threadsIn 29 = .ok (.invokevirtual 70, 3) := by decide +kernel
theorem dX3_threadsIn_32 : decode cX3_threadsIn 32 = .ok (.ishl, 1) := by decide +kernel
theorem dX3_threadsIn_33 : decode cX3_threadsIn 33 = .ok (.ior, 1) := by decide +kernel
theorem dX3_threadsIn_34 : decode cX3_threadsIn 34 = .ok (.istore_n 2, 1) := by decide +kernel
theorem dX3_threadsIn_35 : decode cX3_threadsIn 35 = .ok (.iinc 3 1, 3) := by decide +kernel
theorem dX3_threadsIn_38 : decode cX3_threadsIn 38 = .ok (.goto (-34), 3) := by decide +kernel
theorem dX3_threadsIn_41 : decode cX3_threadsIn 41 = .ok (.iload_n 2, 1) := by decide +kernel
theorem dX3_threadsIn_42 : decode cX3_threadsIn 42 = .ok (.ireturn, 1) := by decide +kernel
set_option maxRecDepth 20000 in
theorem ggX3_breakNumber_X3_isBreak : GoodIn wsX3_breakNumber wsX3_isBreak := goodIn_r _ [6, 7, 8, 9, 10, 11, 5, 12, 1, 13, 14, 15, 16, 17, 18, 19, 20, 21, 22, 23, 29, 30, 31, 32, 33, 34, 35, 36, 37, 38, 39, 40] (by decide +kernel) (by decide +kernel)
set_option maxRecDepth 20000 in
theorem gX3_breakNumber_X3_isBreak : GoodIn wsX3_breakNumber (wsV RX3 102 RX3 yX3_isBreak wsX3_isBreak) := goodIn_app (goodIn_of _ (by decide +kernel)) ggX3_breakNumber_X3_isBreak
set_option maxRecDepth 20000 in
theorem ggX3_breakNumber_X3_cardAt : GoodIn wsX3_breakNumber wsX3_cardAt := goodIn_r _ [27, 28, 9, 10, 11, 5, 12, 1, 29, 30, 31, 32, 33, 34, 35, 36, 37, 38] (by decide +kernel) (by decide +kernel)
set_option maxRecDepth 20000 in
theorem gX3_breakNumber_X3_cardAt : GoodIn wsX3_breakNumber (wsV RX3 85 RX3 yX3_cardAt wsX3_cardAt) := goodIn_app (goodIn_of _ (by decide +kernel)) ggX3_breakNumber_X3_cardAt
theorem dX3_breakNumber_0 : decode cX3_breakNumber 0 = .ok (.iconst 0, 1) := by decide +kernel
theorem dX3_breakNumber_1 : decode cX3_breakNumber 1 = .ok (.istore_n 2, 1) := by decide +kernel
theorem dX3_breakNumber_2 : decode cX3_breakNumber 2 = .ok (.iconst 0, 1) := by decide +kernel
theorem dX3_breakNumber_3 : decode cX3_breakNumber 3 = .ok (.istore_n 3, 1) := by decide +kernel
theorem dX3_breakNumber_4 : decode cX3_breakNumber 4 = .ok (.iload_n 3, 1) := by decide +kernel
theorem dX3_breakNumber_5 : decode cX3_breakNumber 5 = .ok (.aload_n 0, 1) := by decide +kernel
theorem dX3_breakNumber_6 : decode cX3_breakNumber 6 = .ok (.getfield 37, 3) := by decide +kernel
theorem dX3_breakNumber_9 : decode cX3_breakNumber 9 = .ok (.if_icmp .ge 31, 3) := by decide +kernel
theorem dX3_breakNumber_12 : decode cX3_breakNumber 12 = .ok (.aload_n 0, 1) := by decide +kernel
theorem dX3_breakNumber_13 : decode cX3_breakNumber 13 = .ok (.iload_n 3, 1) := by decide +kernel
theorem dX3_breakNumber_14 : decode cX3_breakNumber 14 = .ok (.invokevirtual 102, 3) := by decide +kernel
theorem dX3_breakNumber_17 : decode cX3_breakNumber 17 = .ok (.ifCond .eq 17, 3) := by decide +kernel
theorem dX3_breakNumber_20 : decode cX3_breakNumber 20 = .ok (.iload_n 2, 1) := by decide +kernel
theorem dX3_breakNumber_21 : decode cX3_breakNumber 21 = .ok (.iload_n 1, 1) := by decide +kernel
theorem dX3_breakNumber_22 : decode cX3_breakNumber 22 = .ok (.if_icmp .ne 9, 3) := by decide +kernel
theorem dX3_breakNumber_25 : decode cX3_breakNumber 25 = .ok (.aload_n 0, 1) := by decide +kernel
theorem dX3_breakNumber_26 : decode cX3_breakNumber 26 = .ok (.iload_n 3, 1) := by decide +kernel
theorem dX3_breakNumber_27 : decode cX3_breakNumber 27 = .ok (.invokevirtual 85, 3) := by decide +kernel
theorem dX3_breakNumber_30 : decode cX3_breakNumber 30 = .ok (.ireturn, 1) := by decide +kernel
theorem dX3_breakNumber_31 : decode cX3_breakNumber 31 = .ok (.iinc 2 1, 3) := by decide +kernel
theorem dX3_breakNumber_34 : decode cX3_breakNumber 34 = .ok (.iinc 3 1, 3) := by decide +kernel
theorem dX3_breakNumber_37 : decode cX3_breakNumber 37 = .ok (.goto (-33), 3) := by decide +kernel
theorem dX3_breakNumber_40 : decode cX3_breakNumber 40 = .ok (.bipush (-5), 2) := by decide +kernel
theorem dX3_breakNumber_42 : decode cX3_breakNumber 42 = .ok (.ireturn, 1) := by decide +kernel
set_option maxRecDepth 20000 in
theorem ggX4_init_X1_init : GoodIn wsX4_init wsX1_init := goodIn_r _ [15, 16, 2, 3, 12, 17, 23, 24] (by decide +kernel) (by decide +kernel)
set_option maxRecDepth 20000 in
theorem gX4_init_X1_init_n11 : GoodIn wsX4_init (wsX1_init) := ggX4_init_X1_init
set_option maxRecDepth 20000 in
theorem ggX4_init_X7_init : GoodIn wsX4_init wsX7_init := goodIn_r _ [20, 21, 2, 3, 12, 22, 28] (by decide +kernel) (by decide +kernel)
set_option maxRecDepth 20000 in
theorem gX4_init_X7_init : GoodIn wsX4_init (wsX7_init) := ggX4_init_X7_init
theorem dX4_init_0 : decode cX4_init 0 = .ok (.aload_n 0, 1) := by decide +kernel
theorem dX4_init_1 : decode cX4_init 1 = .ok (.invokespecial 3, 3) := by decide +kernel
theorem dX4_init_4 : decode cX4_init 4 = .ok (.aload_n 0, 1) := by decide +kernel
theorem dX4_init_5 : decode cX4_init 5 = .ok (.new 9, 3) := by decide +kernel
theorem dX4_init_8 : decode cX4_init 8 = .ok (.dup, 1) := by decide +kernel
theorem dX4_init_9 : decode cX4_init 9 = .ok (.invokespecial 11, 3) := by decide +kernel
theorem dX4_init_12 : decode cX4_init 12 = .ok (.putfield 12, 3) := by decide +kernel
theorem dX4_init_15 : decode cX4_init 15 = .ok (.aload_n 0, 1) := by decide +kernel
theorem dX4_init_16 : decode cX4_init 16 = .ok (.new 18, 3) := by decide +kernel
theorem dX4_init_19 : decode cX4_init 19 = .ok (.dup, 1) := by decide +kernel
theorem dX4_init_20 : decode cX4_init 20 = .ok (.invokespecial 20, 3) := by decide +kernel
theorem dX4_init_23 : decode cX4_init 23 = .ok (.putfield 21, 3) := by decide +kernel
theorem dX4_init_26 : decode cX4_init 26 = .ok (.aload_n 0, 1) := by decide +kernel
theorem dX4_init_27 : decode cX4_init 27 = .ok (.iconst 3, 1) := by decide +kernel
theorem dX4_init_28 : decode cX4_init 28 = .ok (.newarray .int, 2) := by decide +kernel
theorem dX4_init_30 : decode cX4_init 30 = .ok (.dup, 1) := by decide +kernel
theorem dX4_init_31 : decode cX4_init 31 = .ok (.iconst 0, 1) := by decide +kernel
theorem dX4_init_32 : decode cX4_init 32 = .ok (.iconst 3, 1) := by decide +kernel
theorem dX4_init_33 : decode cX4_init 33 = .ok (.iastore, 1) := by decide +kernel
theorem dX4_init_34 : decode cX4_init 34 = .ok (.dup, 1) := by decide +kernel
theorem dX4_init_35 : decode cX4_init 35 = .ok (.iconst 1, 1) := by decide +kernel
theorem dX4_init_36 : decode cX4_init 36 = .ok (.bipush 100, 2) := by decide +kernel
theorem dX4_init_38 : decode cX4_init 38 = .ok (.iastore, 1) := by decide +kernel
theorem dX4_init_39 : decode cX4_init 39 = .ok (.dup, 1) := by decide +kernel
theorem dX4_init_40 : decode cX4_init 40 = .ok (.iconst 2, 1) := by decide +kernel
theorem dX4_init_41 : decode cX4_init 41 = .ok (.bipush 100, 2) := by decide +kernel
theorem dX4_init_43 : decode cX4_init 43 = .ok (.iastore, 1) := by decide +kernel
theorem dX4_init_44 : decode cX4_init 44 = .ok (.putfield 25, 3) := by decide +kernel
theorem dX4_init_47 : decode cX4_init 47 = .ok (.return_, 1) := by decide +kernel
set_option maxRecDepth 20000 in
theorem ggX4_copyFrom_X1_copyFrom : GoodIn wsX4_copyFrom wsX1_copyFrom := goodIn_r _ [12, 13, 14, 5, 6, 7, 15, 26, 27] (by decide +kernel) (by decide +kernel)
set_option maxRecDepth 20000 in
theorem gX4_copyFrom_X1_copyFrom : GoodIn wsX4_copyFrom (wsV RX4 29 RX1 yX1_copyFrom wsX1_copyFrom) := goodIn_app (goodIn_of _ (by decide +kernel)) ggX4_copyFrom_X1_copyFrom
set_option maxRecDepth 20000 in
theorem ggX4_copyFrom_X7_copyFrom : GoodIn wsX4_copyFrom wsX7_copyFrom := goodIn_r _ [20, 21, 22, 5, 6, 7, 28] (by decide +kernel) (by decide +kernel)
set_option maxRecDepth 20000 in
theorem gX4_copyFrom_X7_copyFrom : GoodIn wsX4_copyFrom (wsV RX4 33 RX7 yX7_copyFrom wsX7_copyFrom) := goodIn_app (goodIn_of _ (by decide +kernel)) ggX4_copyFrom_X7_copyFrom
theorem dX4_copyFrom_0 : decode cX4_copyFrom 0 = .ok (.aload_n 0, 1) := by decide +kernel
theorem dX4_copyFrom_1 : decode cX4_copyFrom 1 = .ok (.getfield 12, 3) := by decide +kernel
theorem dX4_copyFrom_4 : decode cX4_copyFrom 4 = .ok (.aload_n 1, 1) := by decide +kernel
theorem dX4_copyFrom_5 : decode cX4_copyFrom 5 = .ok (.getfield 12, 3) := by decide +kernel
theorem dX4_copyFrom_8 : decode cX4_copyFrom 8 = .ok (.invokevirtual 29, 3) := by decide +kernel
theorem dX4_copyFrom_11 : decode cX4_copyFrom 11 = .ok (.aload_n 0, 1) := by decide +kernel
theorem dX4_copyFrom_12 : decode cX4_copyFrom 12 = .ok (.getfield 21, 3) := by decide +kernel
theorem dX4_copyFrom_15 : decode cX4_copyFrom 15 = .ok (.aload_n 1, 1) := by decide +kernel
theorem dX4_copyFrom_16 : decode cX4_copyFrom 16 = .ok (.getfield 21, 3) := by decide +kernel
theorem dX4_copyFrom_19 : decode cX4_copyFrom 19 = .ok (.invokevirtual 33, 3) := by decide +kernel
theorem dX4_copyFrom_22 : decode cX4_copyFrom 22 = .ok (.aload_n 1, 1) := by decide +kernel
theorem dX4_copyFrom_23 : decode cX4_copyFrom 23 = .ok (.getfield 25, 3) := by decide +kernel
theorem dX4_copyFrom_26 : decode cX4_copyFrom 26 = .ok (.iconst 0, 1) := by decide +kernel
theorem dX4_copyFrom_27 : decode cX4_copyFrom 27 = .ok (.aload_n 0, 1) := by decide +kernel
theorem dX4_copyFrom_28 : decode cX4_copyFrom 28 = .ok (.getfield 25, 3) := by decide +kernel
theorem dX4_copyFrom_31 : decode cX4_copyFrom 31 = .ok (.iconst 0, 1) := by decide +kernel
theorem dX4_copyFrom_32 : decode cX4_copyFrom 32 = .ok (.aload_n 0, 1) := by decide +kernel
theorem dX4_copyFrom_33 : decode cX4_copyFrom 33 = .ok (.getfield 25, 3) := by decide +kernel
theorem dX4_copyFrom_36 : decode cX4_copyFrom 36 = .ok (.arraylength, 1) := by decide +kernel
theorem dX4_copyFrom_37 : decode cX4_copyFrom 37 = .ok (.invokestatic 36, 3) := by decide +kernel
theorem dX4_copyFrom_40 : decode cX4_copyFrom 40 = .ok (.return_, 1) := by decide +kernel
theorem dX4_setting_0 : decode cX4_setting 0 = .ok (.iload_n 1, 1) := by decide +kernel
theorem dX4_setting_1 : decode cX4_setting 1 = .ok (.ifCond .lt 21, 3) := by decide +kernel
theorem dX4_setting_4 : decode cX4_setting 4 = .ok (.iload_n 1, 1) := by decide +kernel
theorem dX4_setting_5 : decode cX4_setting 5 = .ok (.aload_n 0, 1) := by decide +kernel
theorem dX4_setting_6 : decode cX4_setting 6 = .ok (.getfield 25, 3) := by decide +kernel
theorem dX4_setting_9 : decode cX4_setting 9 = .ok (.arraylength, 1) := by decide +kernel
theorem dX4_setting_10 : decode cX4_setting 10 = .ok (.if_icmp .ge 12, 3) := by decide +kernel
theorem dX4_setting_13 : decode cX4_setting 13 = .ok (.aload_n 0, 1) := by decide +kernel
theorem dX4_setting_14 : decode cX4_setting 14 = .ok (.getfield 25, 3) := by decide +kernel
theorem dX4_setting_17 : decode cX4_setting 17 = .ok (.iload_n 1, 1) := by decide +kernel
theorem dX4_setting_18 : decode cX4_setting 18 = .ok (.iaload, 1) := by decide +kernel
theorem dX4_setting_19 : decode cX4_setting 19 = .ok (.goto 5, 3) := by decide +kernel
theorem dX4_setting_22 : decode cX4_setting 22 = .ok (.bipush (-5), 2) := by decide +kernel
theorem dX4_setting_24 : decode cX4_setting 24 = .ok (.ireturn, 1) := by decide +kernel
theorem dX4_putSetting_0 : decode cX4_putSetting 0 = .ok (.iload_n 1, 1) := by decide +kernel
theorem dX4_putSetting_1 : decode cX4_putSetting 1 = .ok (.ifCond .lt 19, 3) := by decide +kernel
theorem dX4_putSetting_4 : decode cX4_putSetting 4 = .ok (.iload_n 1, 1) := by decide +kernel
theorem dX4_putSetting_5 : decode cX4_putSetting 5 = .ok (.aload_n 0, 1) := by decide +kernel
theorem dX4_putSetting_6 : decode cX4_putSetting 6 = .ok (.getfield 25, 3) := by decide +kernel
theorem dX4_putSetting_9 : decode cX4_putSetting 9 = .ok (.arraylength, 1) := by decide +kernel
theorem dX4_putSetting_10 : decode cX4_putSetting 10 = .ok (.if_icmp .ge 10, 3) := by decide +kernel
theorem dX4_putSetting_13 : decode cX4_putSetting 13 = .ok (.aload_n 0, 1) := by decide +kernel
theorem dX4_putSetting_14 : decode cX4_putSetting 14 = .ok (.getfield 25, 3) := by decide +kernel
theorem dX4_putSetting_17 : decode cX4_putSetting 17 = .ok (.iload_n 1, 1) := by decide +kernel
theorem dX4_putSetting_18 : decode cX4_putSetting 18 = .ok (.iload_n 2, 1) := by decide +kernel
theorem dX4_putSetting_19 : decode cX4_putSetting 19 = .ok (.iastore, 1) := by decide +kernel
theorem dX4_putSetting_20 : decode cX4_putSetting 20 = .ok (.return_, 1) := by decide +kernel
theorem dX5_init_0 : decode cX5_init 0 = .ok (.aload_n 0, 1) := by decide +kernel
theorem dX5_init_1 : decode cX5_init 1 = .ok (.invokespecial 3, 3) := by decide +kernel
theorem dX5_init_4 : decode cX5_init 4 = .ok (.aload_n 0, 1) := by decide +kernel
theorem dX5_init_5 : decode cX5_init 5 = .ok (.bipush 40, 2) := by decide +kernel
theorem dX5_init_7 : decode cX5_init 7 = .ok (.newarray .int, 2) := by decide +kernel
theorem dX5_init_9 : decode cX5_init 9 = .ok (.putfield 9, 3) := by decide +kernel
theorem dX5_init_12 : decode cX5_init 12 = .ok (.aload_n 0, 1) := by decide +kernel
theorem dX5_init_13 : decode cX5_init 13 = .ok (.bipush 40, 2) := by decide +kernel
theorem dX5_init_15 : decode cX5_init 15 = .ok (.newarray .int, 2) := by decide +kernel
theorem dX5_init_17 : decode cX5_init 17 = .ok (.putfield 15, 3) := by decide +kernel
theorem dX5_init_20 : decode cX5_init 20 = .ok (.aload_n 0, 1) := by decide +kernel
theorem dX5_init_21 : decode cX5_init 21 = .ok (.bipush 40, 2) := by decide +kernel
theorem dX5_init_23 : decode cX5_init 23 = .ok (.newarray .int, 2) := by decide +kernel
theorem dX5_init_25 : decode cX5_init 25 = .ok (.putfield 18, 3) := by decide +kernel
theorem dX5_init_28 : decode cX5_init 28 = .ok (.aload_n 0, 1) := by decide +kernel
theorem dX5_init_29 : decode cX5_init 29 = .ok (.bipush 40, 2) := by decide +kernel
theorem dX5_init_31 : decode cX5_init 31 = .ok (.newarray .int, 2) := by decide +kernel
theorem dX5_init_33 : decode cX5_init 33 = .ok (.putfield 21, 3) := by decide +kernel
theorem dX5_init_36 : decode cX5_init 36 = .ok (.aload_n 0, 1) := by decide +kernel
theorem dX5_init_37 : decode cX5_init 37 = .ok (.bipush 40, 2) := by decide +kernel
theorem dX5_init_39 : decode cX5_init 39 = .ok (.newarray .int, 2) := by decide +kernel
theorem dX5_init_41 : decode cX5_init 41 = .ok (.putfield 24, 3) := by decide +kernel
theorem dX5_init_44 : decode cX5_init 44 = .ok (.aload_n 0, 1) := by decide +kernel
theorem dX5_init_45 : decode cX5_init 45 = .ok (.bipush 40, 2) := by decide +kernel
theorem dX5_init_47 : decode cX5_init 47 = .ok (.newarray .int, 2) := by decide +kernel
theorem dX5_init_49 : decode cX5_init 49 = .ok (.putfield 27, 3) := by decide +kernel
theorem dX5_init_52 : decode cX5_init 52 = .ok (.return_, 1) := by decide +kernel
set_option maxRecDepth 20000 in
theorem ggX5_gather_X3_size : GoodIn wsX5_gather wsX3_size := goodIn_r _ [10, 11, 57, 58, 59, 60, 61, 62, 63, 64, 65, 66] (by decide +kernel) (by decide +kernel)
set_option maxRecDepth 20000 in
theorem gX5_gather_X3_size : GoodIn wsX5_gather (wsV RX5 34 RX3 yX3_size wsX3_size) := goodIn_app (goodIn_of _ (by decide +kernel)) ggX5_gather_X3_size
set_option maxRecDepth 20000 in
theorem ggX5_gather_X3_isOf : GoodIn wsX5_gather wsX3_isOf := goodIn_r _ [15, 16, 17, 18, 19, 20, 21, 22, 23, 24, 25, 26, 27, 57, 58, 59, 60, 61, 62, 63, 64, 65, 66, 67, 68] (by decide +kernel) (by decide +kernel)
set_option maxRecDepth 20000 in
theorem gX5_gather_X3_isOf : GoodIn wsX5_gather (wsV RX5 39 RX3 yX3_isOf wsX3_isOf) := goodIn_app (goodIn_of _ (by decide +kernel)) ggX5_gather_X3_isOf
set_option maxRecDepth 20000 in
theorem ggX5_gather_X3_isStraight : GoodIn wsX5_gather wsX3_isStraight := goodIn_r _ [31, 16, 17, 18, 19, 20, 21, 22, 23, 24, 25, 26, 27, 57, 58, 59, 60, 61, 62, 63, 64, 65, 66, 67, 68] (by decide +kernel) (by decide +kernel)
set_option maxRecDepth 20000 in
theorem gX5_gather_X3_isStraight : GoodIn wsX5_gather (wsV RX5 43 RX3 yX3_isStraight wsX3_isStraight) := goodIn_app (goodIn_of _ (by decide +kernel)) ggX5_gather_X3_isStraight
set_option maxRecDepth 20000 in
theorem ggX5_gather_X3_cardAt : GoodIn wsX5_gather wsX3_cardAt := goodIn_r _ [35, 36, 37, 38, 39, 9, 40, 11, 57, 58, 59, 60, 61, 62, 63, 64, 65, 66] (by decide +kernel) (by decide +kernel)
set_option maxRecDepth 20000 in
theorem gX5_gather_X3_cardAt : GoodIn wsX5_gather (wsV RX5 47 RX3 yX3_cardAt wsX3_cardAt) := goodIn_app (goodIn_of _ (by decide +kernel)) ggX5_gather_X3_cardAt
set_option maxRecDepth 20000 in
theorem ggX5_gather_X3_hourAt : GoodIn wsX5_gather wsX3_hourAt := goodIn_r _ [44, 16, 17, 18, 19, 20, 21, 22, 23, 24, 25, 26, 27, 57, 58, 59, 60, 61, 62, 63, 64, 65, 66, 67, 68] (by decide +kernel) (by decide +kernel)
set_option maxRecDepth 20000 in
theorem gX5_gather_X3_hourAt : GoodIn wsX5_gather (wsV RX5 51 RX3 yX3_hourAt wsX3_hourAt) := goodIn_app (goodIn_of _ (by decide +kernel)) ggX5_gather_X3_hourAt
set_option maxRecDepth 20000 in
theorem ggX5_gather_X3_slotAt : GoodIn wsX5_gather wsX3_slotAt := goodIn_r _ [48, 49, 37, 38, 39, 9, 40, 11, 57, 58, 59, 60, 61, 62, 63, 64, 65, 66] (by decide +kernel) (by decide +kernel)
set_option maxRecDepth 20000 in
theorem gX5_gather_X3_slotAt : GoodIn wsX5_gather (wsV RX5 54 RX3 yX3_slotAt wsX3_slotAt) := goodIn_app (goodIn_of _ (by decide +kernel)) ggX5_gather_X3_slotAt
theorem dX5_gather_0 : decode cX5_gather 0 = .ok (.aload_n 0, 1) := by decide +kernel
theorem dX5_gather_1 : decode cX5_gather 1 = .ok (.iconst 0, 1) := by decide +kernel
theorem dX5_gather_2 : decode cX5_gather 2 = .ok (.putfield 30, 3) := by decide +kernel
theorem dX5_gather_5 : decode cX5_gather 5 = .ok (.iconst 0, 1) := by decide +kernel
theorem dX5_gather_6 : decode cX5_gather 6 = .ok (.istore_n 3, 1) := by decide +kernel
theorem dX5_gather_7 : decode cX5_gather 7 = .ok (.iload_n 3, 1) := by decide +kernel
theorem dX5_gather_8 : decode cX5_gather 8 = .ok (.aload_n 1, 1) := by decide +kernel
theorem dX5_gather_9 : decode cX5_gather 9 = .ok (.invokevirtual 34, 3) := by decide +kernel
theorem dX5_gather_12 : decode cX5_gather 12 = .ok (.if_icmp .ge 97, 3) := by decide +kernel
theorem dX5_gather_15 : decode cX5_gather 15 = .ok (.aload_n 0, 1) := by decide +kernel
theorem dX5_gather_16 : decode cX5_gather 16 = .ok (.getfield 30, 3) := by decide +kernel
theorem dX5_gather_19 : decode cX5_gather 19 = .ok (.bipush 40, 2) := by decide +kernel
theorem dX5_gather_21 : decode cX5_gather 21 = .ok (.if_icmp .ge 88, 3) := by decide +kernel
theorem dX5_gather_24 : decode cX5_gather 24 = .ok (.aload_n 1, 1) := by decide +kernel
theorem dX5_gather_25 : decode cX5_gather 25 = .ok (.iload_n 3, 1) := by decide +kernel
theorem dX5_gather_26 : decode cX5_gather 26 = .ok (.iload_n 2, 1) := by decide +kernel
theorem dX5_gather_27 : decode cX5_gather 27 = .ok (.invokevirtual 39, 3) := by decide +kernel
theorem dX5_gather_30 : decode cX5_gather 30 = .ok (.ifCond .eq 73, 3) := by decide +kernel
theorem dX5_gather_33 : decode cX5_gather 33 = .ok (.aload_n 1, 1) := by decide +kernel
theorem dX5_gather_34 : decode cX5_gather 34 = .ok (.iload_n 3, 1) := by decide +kernel
theorem dX5_gather_35 : decode cX5_gather 35 = .ok (.invokevirtual 43, 3) := by decide +kernel
theorem dX5_gather_38 : decode cX5_gather 38 = .ok (.ifCond .eq 65, 3) := by decide +kernel
theorem dX5_gather_41 : decode cX5_gather 41 = .ok (.aload_n 0, 1) := by decide +kernel
theorem dX5_gather_42 : decode cX5_gather 42 = .ok (.getfield 9, 3) := by decide +kernel
theorem dX5_gather_45 : decode cX5_gather 45 = .ok (.aload_n 0, 1) := by decide +kernel
theorem dX5_gather_46 : decode cX5_gather 46 = .ok (.getfield 30, 3) := by decide +kernel
theorem dX5_gather_49 : decode cX5_gather 49 = .ok (.iload_n 3, 1) := by decide +kernel
theorem dX5_gather_50 : decode cX5_gather 50 = .ok (.iastore, 1) := by decide +kernel
theorem dX5_gather_51 : decode cX5_gather 51 = .ok (.aload_n 0, 1) := by decide +kernel
theorem dX5_gather_52 : decode cX5_gather 52 = .ok (.getfield 15, 3) := by decide +kernel
theorem dX5_gather_55 : decode cX5_gather 55 = .ok (.aload_n 0, 1) := by decide +kernel
theorem dX5_gather_56 : decode cX5_gather 56 = .ok (.getfield 30, 3) := by decide +kernel
theorem dX5_gather_59 : decode cX5_gather 59 = .ok (.aload_n 1, 1) := by decide +kernel
theorem dX5_gather_60 : decode cX5_gather 60 = .ok (.iload_n 3, 1) := by decide +kernel
theorem dX5_gather_61 : decode cX5_gather 61 = .ok (.invokevirtual 47, 3) := by decide +kernel
theorem dX5_gather_64 : decode cX5_gather 64 = .ok (.iastore, 1) := by decide +kernel
theorem dX5_gather_65 : decode cX5_gather 65 = .ok (.aload_n 0, 1) := by decide +kernel
theorem dX5_gather_66 : decode cX5_gather 66 = .ok (.getfield 18, 3) := by decide +kernel
theorem dX5_gather_69 : decode cX5_gather 69 = .ok (.aload_n 0, 1) := by decide +kernel
theorem dX5_gather_70 : decode cX5_gather 70 = .ok (.getfield 30, 3) := by decide +kernel
theorem dX5_gather_73 : decode cX5_gather 73 = .ok (.aload_n 1, 1) := by decide +kernel
theorem dX5_gather_74 : decode cX5_gather 74 = .ok (.iload_n 3, 1) := by decide +kernel
theorem dX5_gather_75 : decode cX5_gather 75 = .ok (.invokevirtual 51, 3) := by decide +kernel
theorem dX5_gather_78 : decode cX5_gather 78 = .ok (.iastore, 1) := by decide +kernel
theorem dX5_gather_79 : decode cX5_gather 79 = .ok (.aload_n 0, 1) := by decide +kernel
theorem dX5_gather_80 : decode cX5_gather 80 = .ok (.getfield 21, 3) := by decide +kernel
theorem dX5_gather_83 : decode cX5_gather 83 = .ok (.aload_n 0, 1) := by decide +kernel
theorem dX5_gather_84 : decode cX5_gather 84 = .ok (.getfield 30, 3) := by decide +kernel
theorem dX5_gather_87 : decode cX5_gather 87 = .ok (.aload_n 1, 1) := by decide +kernel
theorem dX5_gather_88 : decode cX5_gather 88 = .ok (.iload_n 3, 1) := by decide +kernel
theorem dX5_gather_89 : decode cX5_gather 89 = .ok (.invokevirtual 54, 3) := by decide +kernel
theorem dX5_gather_92 : decode cX5_gather 92 = .ok (.iastore, 1) := by decide +kernel
theorem dX5_gather_93 : decode cX5_gather 93 = .ok (.aload_n 0, 1) := by decide +kernel
theorem dX5_gather_94 : decode cX5_gather 94 = .ok (.dup, 1) := by decide +kernel
theorem dX5_gather_95 : decode cX5_gather 95 = .ok (.getfield 30, 3) := by decide +kernel
theorem dX5_gather_98 : decode cX5_gather 98 = .ok (.iconst 1, 1) := by decide +kernel
theorem dX5_gather_99 : decode cX5_gather 99 = .ok (.iadd, 1) := by decide +kernel
theorem dX5_gather_100 : decode cX5_gather 100 = .ok (.putfield 30, 3) := by decide +kernel
theorem dX5_gather_103 : decode cX5_gather 103 = .ok (.iinc 3 1, 3) := by decide +kernel
theorem dX5_gather_106 : decode cX5_gather 106 = .ok (.goto (-99), 3) := by decide +kernel
theorem dX5_gather_109 : decode cX5_gather 109 = .ok (.return_, 1) := by decide +kernel
theorem dX5_valueAt_0 : decode cX5_valueAt 0 = .ok (.iload_n 2, 1) := by decide +kernel
theorem dX5_valueAt_1 : decode cX5_valueAt 1 = .ok (.ifCond .lt 23, 3) := by decide +kernel
theorem dX5_valueAt_4 : decode cX5_valueAt 4 = .ok (.iload_n 2, 1) := by decide +kernel
theorem dX5_valueAt_5 : decode cX5_valueAt 5 = .ok (.aload_n 0, 1) := by decide +kernel
theorem dX5_valueAt_6 : decode cX5_valueAt 6 = .ok (.getfield 30, 3) := by decide +kernel
theorem dX5_valueAt_9 : decode cX5_valueAt 9 = .ok (.if_icmp .ge 15, 3) := by decide +kernel
theorem dX5_valueAt_12 : decode cX5_valueAt 12 = .ok (.iload_n 2, 1) := by decide +kernel
theorem dX5_valueAt_13 : decode cX5_valueAt 13 = .ok (.aload_n 1, 1) := by decide +kernel
theorem dX5_valueAt_14 : decode cX5_valueAt 14 = .ok (.arraylength, 1) := by decide +kernel
theorem dX5_valueAt_15 : decode cX5_valueAt 15 = .ok (.if_icmp .ge 9, 3) := by decide +kernel
theorem dX5_valueAt_18 : decode cX5_valueAt 18 = .ok (.aload_n 1, 1) := by decide +kernel
theorem dX5_valueAt_19 : decode cX5_valueAt 19 = .ok (.iload_n 2, 1) := by decide +kernel
theorem dX5_valueAt_20 : decode cX5_valueAt 20 = .ok (.iaload, 1) := by decide +kernel
theorem dX5_valueAt_21 : decode cX5_valueAt 21 = .ok (.goto 5, 3) := by decide +kernel
theorem dX5_valueAt_24 : decode cX5_valueAt 24 = .ok (.bipush (-5), 2) := by decide +kernel
theorem dX5_valueAt_26 : decode cX5_valueAt 26 = .ok (.ireturn, 1) := by decide +kernel
set_option maxRecDepth 20000 in
theorem ggX5_breaksMadeBy_X5_valueAt : GoodIn wsX5_breaksMadeBy wsX5_valueAt := goodIn_r _ [8, 1, 9, 10, 11, 12, 13, 14, 15] (by decide +kernel) (by decide +kernel)
set_option maxRecDepth 20000 in
theorem gX5_breaksMadeBy_X5_valueAt : GoodIn wsX5_breaksMadeBy (wsV RX5 57 RX5 yX5_valueAt wsX5_valueAt) := goodIn_app (goodIn_of _ (by decide +kernel)) ggX5_breaksMadeBy_X5_valueAt
theorem dX5_breaksMadeBy_0 : decode cX5_breaksMadeBy 0 = .ok (.iconst 0, 1) := by decide +kernel
theorem dX5_breaksMadeBy_1 : decode cX5_breaksMadeBy 1 = .ok (.istore_n 3, 1) := by decide +kernel
theorem dX5_breaksMadeBy_2 : decode cX5_breaksMadeBy 2 = .ok (.iload_n 3, 1) := by decide +kernel
theorem dX5_breaksMadeBy_3 : decode cX5_breaksMadeBy 3 = .ok (.aload_n 0, 1) := by decide +kernel
theorem dX5_breaksMadeBy_4 : decode cX5_breaksMadeBy 4 = .ok (.getfield 30, 3) := by decide +kernel
theorem dX5_breaksMadeBy_7 : decode cX5_breaksMadeBy 7 = .ok (.if_icmp .ge 22, 3) := by decide +kernel
theorem dX5_breaksMadeBy_10 : decode cX5_breaksMadeBy 10 = .ok (.aload_n 0, 1) := by decide +kernel
theorem dX5_breaksMadeBy_11 : decode cX5_breaksMadeBy 11 = .ok (.aload_n 0, 1) := by decide +kernel
theorem dX5_breaksMadeBy_12 : decode cX5_breaksMadeBy 12 = .ok (.getfield 9, 3) := by decide +kernel
theorem dX5_breaksMadeBy_15 : decode cX5_breaksMadeBy 15 = .ok (.iload_n 3, 1) := by decide +kernel
theorem dX5_breaksMadeBy_16 : decode cX5_breaksMadeBy 16 = .ok (.invokevirtual 57, 3) := by decide +kernel
theorem dX5_breaksMadeBy_19 : decode cX5_breaksMadeBy 19 = .ok (.iload_n 2, 1) := by decide +kernel
theorem dX5_breaksMadeBy_20 : decode cX5_breaksMadeBy 20 = .ok (.if_icmp .ge 9, 3) := by decide +kernel
theorem dX5_breaksMadeBy_23 : decode cX5_breaksMadeBy 23 = .ok (.iinc 3 1, 3) := by decide +kernel
theorem dX5_breaksMadeBy_26 : decode cX5_breaksMadeBy 26 = .ok (.goto (-24), 3) := by decide +kernel
theorem dX5_breaksMadeBy_29 : decode cX5_breaksMadeBy 29 = .ok (.iload_n 3, 1) := by decide +kernel
theorem dX5_breaksMadeBy_30 : decode cX5_breaksMadeBy 30 = .ok (.ifCond .le 7, 3) := by decide +kernel
theorem dX5_breaksMadeBy_33 : decode cX5_breaksMadeBy 33 = .ok (.iconst 1, 1) := by decide +kernel
theorem dX5_breaksMadeBy_34 : decode cX5_breaksMadeBy 34 = .ok (.goto 4, 3) := by decide +kernel
theorem dX5_breaksMadeBy_37 : decode cX5_breaksMadeBy 37 = .ok (.iconst 0, 1) := by decide +kernel
theorem dX5_breaksMadeBy_38 : decode cX5_breaksMadeBy 38 = .ok (.istore 4, 2) := by decide +kernel
theorem dX5_breaksMadeBy_40 : decode cX5_breaksMadeBy 40 = .ok (.iload_n 3, 1) := by decide +kernel
theorem dX5_breaksMadeBy_41 : decode cX5_breaksMadeBy 41 = .ok (.aload_n 0, 1) := by decide +kernel
theorem dX5_breaksMadeBy_42 : decode cX5_breaksMadeBy 42 = .ok (.getfield 30, 3) := by decide +kernel
theorem dX5_breaksMadeBy_45 : decode cX5_breaksMadeBy 45 = .ok (.if_icmp .ge 7, 3) := by decide +kernel
theorem dX5_breaksMadeBy_48 : decode cX5_breaksMadeBy 48 = .ok (.iconst 1, 1) := by decide +kernel
theorem dX5_breaksMadeBy_49 : decode cX5_breaksMadeBy 49 = .ok (.goto 4, 3) := by decide +kernel
theorem dX5_breaksMadeBy_52 : decode cX5_breaksMadeBy 52 = .ok (.iconst 0, 1) := by decide +kernel
theorem dX5_breaksMadeBy_53 : decode cX5_breaksMadeBy 53 = .ok (.istore 5, 2) := by decide +kernel
theorem dX5_breaksMadeBy_55 : decode cX5_breaksMadeBy 55 = .ok (.aload_n 0, 1) := by decide +kernel
theorem dX5_breaksMadeBy_56 : decode cX5_breaksMadeBy 56 = .ok (.aload_n 0, 1) := by decide +kernel
theorem dX5_breaksMadeBy_57 : decode cX5_breaksMadeBy 57 = .ok (.getfield 18, 3) := by decide +kernel
theorem dX5_breaksMadeBy_60 : decode cX5_breaksMadeBy 60 = .ok (.iload_n 3, 1) := by decide +kernel
theorem dX5_breaksMadeBy_61 : decode cX5_breaksMadeBy 61 = .ok (.iconst 1, 1) := by decide +kernel
theorem dX5_breaksMadeBy_62 : decode cX5_breaksMadeBy 62 = .ok (.isub, 1) := by decide +kernel
theorem dX5_breaksMadeBy_63 : decode cX5_breaksMadeBy 63 = .ok (.invokevirtual 57, 3) := by decide +kernel
theorem dX5_breaksMadeBy_66 : decode cX5_breaksMadeBy 66 = .ok (.istore 6, 2) := by decide +kernel
theorem dX5_breaksMadeBy_68 : decode cX5_breaksMadeBy 68 = .ok (.aload_n 0, 1) := by decide +kernel
theorem dX5_breaksMadeBy_69 : decode cX5_breaksMadeBy 69 = .ok (.aload_n 0, 1) := by decide +kernel
theorem dX5_breaksMadeBy_70 : decode cX5_breaksMadeBy 70 = .ok (.getfield 18, 3) := by decide +kernel
theorem dX5_breaksMadeBy_73 : decode cX5_breaksMadeBy 73 = .ok (.iload_n 3, 1) := by decide +kernel
theorem dX5_breaksMadeBy_74 : decode cX5_breaksMadeBy 74 = .ok (.invokevirtual 57, 3) := by decide +kernel
theorem dX5_breaksMadeBy_77 : decode cX5_breaksMadeBy 77 = .ok (.istore 7, 2) := by decide +kernel
theorem dX5_breaksMadeBy_79 : decode cX5_breaksMadeBy 79 = .ok (.iconst 0, 1) := by decide +kernel
theorem dX5_breaksMadeBy_80 : decode cX5_breaksMadeBy 80 = .ok (.istore 8, 2) := by decide +kernel
theorem dX5_breaksMadeBy_82 : decode cX5_breaksMadeBy 82 = .ok (.iload 4, 2) := by decide +kernel
theorem dX5_breaksMadeBy_84 : decode cX5_breaksMadeBy 84 = .ok (.ifCond .eq 12, 3) := by decide +kernel
theorem dX5_breaksMadeBy_87 : decode cX5_breaksMadeBy 87 = .ok (.iload_n 1, 1) := by decide +kernel
theorem dX5_breaksMadeBy_88 : decode cX5_breaksMadeBy 88 = .ok (.iload 6, 2) := by decide +kernel
theorem dX5_breaksMadeBy_90 : decode cX5_breaksMadeBy 90 = .ok (.if_icmp .ge 6, 3) := by decide +kernel
theorem dX5_breaksMadeBy_93 : decode cX5_breaksMadeBy 93 = .ok (.iinc 8 1, 3) := by decide +kernel
theorem dX5_breaksMadeBy_96 : decode cX5_breaksMadeBy 96 = .ok (.iload 5, 2) := by decide +kernel
theorem dX5_breaksMadeBy_98 : decode cX5_breaksMadeBy 98 = .ok (.ifCond .eq 12, 3) := by decide +kernel
theorem dX5_breaksMadeBy_101 : decode cX5_breaksMadeBy 101 = .ok (.iload 7, 2) := by decide +kernel
theorem dX5_breaksMadeBy_103 : decode cX5_breaksMadeBy 103 = .ok (.iload_n 1, 1) := by decide +kernel
theorem dX5_breaksMadeBy_104 : decode cX5_breaksMadeBy 104 = .ok (.if_icmp .ge 6, 3) := by decide +kernel
theorem dX5_breaksMadeBy_107 : decode cX5_breaksMadeBy 107 = .ok (.iinc 8 1, 3) := by decide +kernel
theorem dX5_breaksMadeBy_110 : decode cX5_breaksMadeBy 110 = .ok (.iload 4, 2) := by decide +kernel
theorem dX5_breaksMadeBy_112 : decode cX5_breaksMadeBy 112 = .ok (.ifCond .eq 18, 3) := by decide +kernel
theorem dX5_breaksMadeBy_115 : decode cX5_breaksMadeBy 115 = .ok (.iload 5, 2) := by decide +kernel
theorem dX5_breaksMadeBy_117 : decode cX5_breaksMadeBy 117 = .ok (.ifCond .eq 13, 3) := by decide +kernel
theorem dX5_breaksMadeBy_120 : decode cX5_breaksMadeBy 120 = .ok (.iload 7, 2) := by decide +kernel
theorem dX5_breaksMadeBy_122 : decode cX5_breaksMadeBy 122 = .ok (.iload 6, 2) := by decide +kernel
theorem dX5_breaksMadeBy_124 : decode cX5_breaksMadeBy 124 = .ok (.if_icmp .ge 6, 3) := by decide +kernel
theorem dX5_breaksMadeBy_127 : decode cX5_breaksMadeBy 127 = .ok (.iinc 8 (-1), 3) := by decide +kernel
theorem dX5_breaksMadeBy_130 : decode cX5_breaksMadeBy 130 = .ok (.iload 8, 2) := by decide +kernel
theorem dX5_breaksMadeBy_132 : decode cX5_breaksMadeBy 132 = .ok (.ireturn, 1) := by decide +kernel
theorem dX5_fewestMoves_0 : decode cX5_fewestMoves 0 = .ok (.iconst 0, 1) := by decide +kernel
theorem dX5_fewestMoves_1 : decode cX5_fewestMoves 1 = .ok (.istore_n 1, 1) := by decide +kernel
theorem dX5_fewestMoves_2 : decode cX5_fewestMoves 2 = .ok (.iconst 0, 1) := by decide +kernel
theorem dX5_fewestMoves_3 : decode cX5_fewestMoves 3 = .ok (.istore_n 2, 1) := by decide +kernel
theorem dX5_fewestMoves_4 : decode cX5_fewestMoves 4 = .ok (.iload_n 2, 1) := by decide +kernel
theorem dX5_fewestMoves_5 : decode cX5_fewestMoves 5 = .ok (.aload_n 0, 1) := by decide +kernel
theorem dX5_fewestMoves_6 : decode cX5_fewestMoves 6 = .ok (.getfield 30, 3) := by decide +kernel
theorem dX5_fewestMoves_9 : decode cX5_fewestMoves 9 = .ok (.if_icmp .ge 80, 3) := by decide +kernel
theorem dX5_fewestMoves_12 : decode cX5_fewestMoves 12 = .ok (.iload_n 2, 1) := by decide +kernel
theorem dX5_fewestMoves_13 : decode cX5_fewestMoves 13 = .ok (.bipush 40, 2) := by decide +kernel
theorem dX5_fewestMoves_15 : decode cX5_fewestMoves 15 = .ok (.if_icmp .ge 74, 3) := by decide +kernel
theorem dX5_fewestMoves_18 : decode cX5_fewestMoves 18 = .ok (.iconst 0, 1) := by decide +kernel
theorem dX5_fewestMoves_19 : decode cX5_fewestMoves 19 = .ok (.istore_n 3, 1) := by decide +kernel
theorem dX5_fewestMoves_20 : decode cX5_fewestMoves 20 = .ok (.iconst 0, 1) := by decide +kernel
theorem dX5_fewestMoves_21 : decode cX5_fewestMoves 21 = .ok (.istore 4, 2) := by decide +kernel
theorem dX5_fewestMoves_23 : decode cX5_fewestMoves 23 = .ok (.iload 4, 2) := by decide +kernel
theorem dX5_fewestMoves_25 : decode cX5_fewestMoves 25 = .ok (.iload_n 2, 1) := by decide +kernel
theorem dX5_fewestMoves_26 : decode cX5_fewestMoves 26 = .ok (.if_icmp .ge 37, 3) := by decide +kernel
theorem dX5_fewestMoves_29 : decode cX5_fewestMoves 29 = .ok (.aload_n 0, 1) := by decide +kernel
theorem dX5_fewestMoves_30 : decode cX5_fewestMoves 30 = .ok (.getfield 18, 3) := by decide +kernel
theorem dX5_fewestMoves_33 : decode cX5_fewestMoves 33 = .ok (.iload 4, 2) := by decide +kernel
theorem dX5_fewestMoves_35 : decode cX5_fewestMoves 35 = .ok (.iaload, 1) := by decide +kernel
theorem dX5_fewestMoves_36 : decode cX5_fewestMoves 36 = .ok (.aload_n 0, 1) := by decide +kernel
theorem dX5_fewestMoves_37 : decode cX5_fewestMoves 37 = .ok (.getfield 18, 3) := by decide +kernel
theorem dX5_fewestMoves_40 : decode cX5_fewestMoves 40 = .ok (.iload_n 2, 1) := by decide +kernel
theorem dX5_fewestMoves_41 : decode cX5_fewestMoves 41 = .ok (.iaload, 1) := by decide +kernel
theorem dX5_fewestMoves_42 : decode cX5_fewestMoves 42 = .ok (.if_icmp .gt 15, 3) := by decide +kernel
theorem dX5_fewestMoves_45 : decode cX5_fewestMoves 45 = .ok (.iload_n 3, 1) := by decide +kernel
theorem dX5_fewestMoves_46 : decode cX5_fewestMoves 46 = .ok (.aload_n 0, 1) := by decide +kernel
theorem dX5_fewestMoves_47 : decode cX5_fewestMoves 47 = .ok (.getfield 27, 3) := by decide +kernel
theorem dX5_fewestMoves_50 : decode cX5_fewestMoves 50 = .ok (.iload 4, 2) := by decide +kernel
theorem dX5_fewestMoves_52 : decode cX5_fewestMoves 52 = .ok (.iaload, 1) := by decide +kernel
theorem dX5_fewestMoves_53 : decode cX5_fewestMoves 53 = .ok (.invokestatic 61, 3) := by decide +kernel
theorem dX5_fewestMoves_56 : decode cX5_fewestMoves 56 = .ok (.istore_n 3, 1) := by decide +kernel
theorem dX5_fewestMoves_57 : decode cX5_fewestMoves 57 = .ok (.iinc 4 1, 3) := by decide +kernel
theorem dX5_fewestMoves_60 : decode cX5_fewestMoves 60 = .ok (.goto (-37), 3) := by decide +kernel
theorem dX5_fewestMoves_63 : decode cX5_fewestMoves 63 = .ok (.aload_n 0, 1) := by decide +kernel
theorem dX5_fewestMoves_64 : decode cX5_fewestMoves 64 = .ok (.getfield 27, 3) := by decide +kernel
theorem dX5_fewestMoves_67 : decode cX5_fewestMoves 67 = .ok (.iload_n 2, 1) := by decide +kernel
theorem dX5_fewestMoves_68 : decode cX5_fewestMoves 68 = .ok (.iload_n 3, 1) := by decide +kernel
theorem dX5_fewestMoves_69 : decode cX5_fewestMoves 69 = .ok (.iconst 1, 1) := by decide +kernel
theorem dX5_fewestMoves_70 : decode cX5_fewestMoves 70 = .ok (.iadd, 1) := by decide +kernel
theorem dX5_fewestMoves_71 : decode cX5_fewestMoves 71 = .ok (.iastore, 1) := by decide +kernel
theorem dX5_fewestMoves_72 : decode cX5_fewestMoves 72 = .ok (.iload_n 1, 1) := by decide +kernel
theorem dX5_fewestMoves_73 : decode cX5_fewestMoves 73 = .ok (.aload_n 0, 1) := by decide +kernel
theorem dX5_fewestMoves_74 : decode cX5_fewestMoves 74 = .ok (.getfield 27, 3) := by decide +kernel
theorem dX5_fewestMoves_77 : decode cX5_fewestMoves 77 = .ok (.iload_n 2, 1) := by decide +kernel
theorem dX5_fewestMoves_78 : decode cX5_fewestMoves 78 = .ok (.iaload, 1) := by decide +kernel
theorem dX5_fewestMoves_79 : decode cX5_fewestMoves 79 = .ok (.invokestatic 61, 3) := by decide +kernel
theorem dX5_fewestMoves_82 : decode cX5_fewestMoves 82 = .ok (.istore_n 1, 1) := by decide +kernel
theorem dX5_fewestMoves_83 : decode cX5_fewestMoves 83 = .ok (.iinc 2 1, 3) := by decide +kernel
theorem dX5_fewestMoves_86 : decode cX5_fewestMoves 86 = .ok (.goto (-82), 3) := by decide +kernel
theorem dX5_fewestMoves_89 : decode cX5_fewestMoves 89 = .ok (.aload_n 0, 1) := by decide +kernel
theorem dX5_fewestMoves_90 : decode cX5_fewestMoves 90 = .ok (.getfield 30, 3) := by decide +kernel
theorem dX5_fewestMoves_93 : decode cX5_fewestMoves 93 = .ok (.iload_n 1, 1) := by decide +kernel
theorem dX5_fewestMoves_94 : decode cX5_fewestMoves 94 = .ok (.isub, 1) := by decide +kernel
theorem dX5_fewestMoves_95 : decode cX5_fewestMoves 95 = .ok (.ireturn, 1) := by decide +kernel
set_option maxRecDepth 20000 in
theorem ggX5_sort_X5_standsBefore : GoodIn wsX5_sort wsX5_standsBefore := goodIn_r _ [7, 8, 9, 10, 11, 12, 6, 13, 1, 14, 15, 16, 17, 18, 19, 20] (by decide +kernel) (by decide +kernel)
set_option maxRecDepth 20000 in
theorem gX5_sort_X5_standsBefore : GoodIn wsX5_sort (wsV RX5 67 RX5 yX5_standsBefore wsX5_standsBefore) := goodIn_app (goodIn_of _ (by decide +kernel)) ggX5_sort_X5_standsBefore
theorem dX5_sort_0 : decode cX5_sort 0 = .ok (.iconst 0, 1) := by decide +kernel
theorem dX5_sort_1 : decode cX5_sort 1 = .ok (.istore_n 1, 1) := by decide +kernel
theorem dX5_sort_2 : decode cX5_sort 2 = .ok (.iload_n 1, 1) := by decide +kernel
theorem dX5_sort_3 : decode cX5_sort 3 = .ok (.aload_n 0, 1) := by decide +kernel
theorem dX5_sort_4 : decode cX5_sort 4 = .ok (.getfield 30, 3) := by decide +kernel
theorem dX5_sort_7 : decode cX5_sort 7 = .ok (.if_icmp .ge 64, 3) := by decide +kernel
theorem dX5_sort_10 : decode cX5_sort 10 = .ok (.iload_n 1, 1) := by decide +kernel
theorem dX5_sort_11 : decode cX5_sort 11 = .ok (.bipush 40, 2) := by decide +kernel
theorem dX5_sort_13 : decode cX5_sort 13 = .ok (.if_icmp .ge 58, 3) := by decide +kernel
theorem dX5_sort_16 : decode cX5_sort 16 = .ok (.iload_n 1, 1) := by decide +kernel
theorem dX5_sort_17 : decode cX5_sort 17 = .ok (.istore_n 2, 1) := by decide +kernel
theorem dX5_sort_18 : decode cX5_sort 18 = .ok (.iload_n 2, 1) := by decide +kernel
theorem dX5_sort_19 : decode cX5_sort 19 = .ok (.ifCond .le 39, 3) := by decide +kernel
theorem dX5_sort_22 : decode cX5_sort 22 = .ok (.aload_n 0, 1) := by decide +kernel
theorem dX5_sort_23 : decode cX5_sort 23 = .ok (.iload_n 1, 1) := by decide +kernel
theorem dX5_sort_24 : decode cX5_sort 24 = .ok (.aload_n 0, 1) := by decide +kernel
theorem dX5_sort_25 : decode cX5_sort 25 = .ok (.getfield 24, 3) := by decide +kernel
theorem dX5_sort_28 : decode cX5_sort 28 = .ok (.iload_n 2, 1) := by decide +kernel
theorem dX5_sort_29 : decode cX5_sort 29 = .ok (.iconst 1, 1) := by decide +kernel
theorem dX5_sort_30 : decode cX5_sort 30 = .ok (.isub, 1) := by decide +kernel
theorem dX5_sort_31 : decode cX5_sort 31 = .ok (.iaload, 1) := by decide +kernel
theorem dX5_sort_32 : decode cX5_sort 32 = .ok (.invokevirtual 67, 3) := by decide +kernel
theorem dX5_sort_35 : decode cX5_sort 35 = .ok (.ifCond .eq 23, 3) := by decide +kernel
theorem dX5_sort_38 : decode cX5_sort 38 = .ok (.aload_n 0, 1) := by decide +kernel
theorem dX5_sort_39 : decode cX5_sort 39 = .ok (.getfield 24, 3) := by decide +kernel
theorem dX5_sort_42 : decode cX5_sort 42 = .ok (.iload_n 2, 1) := by decide +kernel
theorem dX5_sort_43 : decode cX5_sort 43 = .ok (.aload_n 0, 1) := by decide +kernel
theorem dX5_sort_44 : decode cX5_sort 44 = .ok (.getfield 24, 3) := by decide +kernel
theorem dX5_sort_47 : decode cX5_sort 47 = .ok (.iload_n 2, 1) := by decide +kernel
theorem dX5_sort_48 : decode cX5_sort 48 = .ok (.iconst 1, 1) := by decide +kernel
theorem dX5_sort_49 : decode cX5_sort 49 = .ok (.isub, 1) := by decide +kernel
theorem dX5_sort_50 : decode cX5_sort 50 = .ok (.iaload, 1) := by decide +kernel
theorem dX5_sort_51 : decode cX5_sort 51 = .ok (.iastore, 1) := by decide +kernel
theorem dX5_sort_52 : decode cX5_sort 52 = .ok (.iinc 2 (-1), 3) := by decide +kernel
theorem dX5_sort_55 : decode cX5_sort 55 = .ok (.goto (-37), 3) := by decide +kernel
theorem dX5_sort_58 : decode cX5_sort 58 = .ok (.aload_n 0, 1) := by decide +kernel
theorem dX5_sort_59 : decode cX5_sort 59 = .ok (.getfield 24, 3) := by decide +kernel
theorem dX5_sort_62 : decode cX5_sort 62 = .ok (.iload_n 2, 1) := by decide +kernel
theorem dX5_sort_63 : decode cX5_sort 63 = .ok (.iload_n 1, 1) := by decide +kernel
theorem dX5_sort_64 : decode cX5_sort 64 = .ok (.iastore, 1) := by decide +kernel
theorem dX5_sort_65 : decode cX5_sort 65 = .ok (.iinc 1 1, 3) := by decide +kernel
theorem dX5_sort_68 : decode cX5_sort 68 = .ok (.goto (-66), 3) := by decide +kernel
theorem dX5_sort_71 : decode cX5_sort 71 = .ok (.return_, 1) := by decide +kernel
set_option maxRecDepth 20000 in
theorem ggX5_standsBefore_X5_valueAt : GoodIn wsX5_standsBefore wsX5_valueAt := goodIn_r _ [7, 8, 9, 10, 11, 12, 13, 14, 15] (by decide +kernel) (by decide +kernel)
set_option maxRecDepth 20000 in
theorem gX5_standsBefore_X5_valueAt : GoodIn wsX5_standsBefore (wsV RX5 57 RX5 yX5_valueAt wsX5_valueAt) := goodIn_app (goodIn_of _ (by decide +kernel)) ggX5_standsBefore_X5_valueAt
theorem dX5_standsBefore_0 : decode cX5_standsBefore 0 = .ok (.aload_n 0, 1) := by decide +kernel
theorem dX5_standsBefore_1 : decode cX5_standsBefore 1 = .ok (.aload_n 0, 1) := by decide +kernel
theorem dX5_standsBefore_2 : decode cX5_standsBefore 2 = .ok (.getfield 18, 3) := by decide +kernel
theorem dX5_standsBefore_5 : decode cX5_standsBefore 5 = .ok (.iload_n 1, 1) := by decide +kernel
theorem dX5_standsBefore_6 : decode cX5_standsBefore 6 = .ok (.invokevirtual 57, 3) := by decide +kernel
theorem dX5_standsBefore_9 : decode cX5_standsBefore 9 = .ok (.aload_n 0, 1) := by decide +kernel
theorem dX5_standsBefore_10 : decode cX5_standsBefore 10 = .ok (.aload_n 0, 1) := by decide +kernel
theorem dX5_standsBefore_11 : decode cX5_standsBefore 11 = .ok (.getfield 18, 3) := by decide +kernel
theorem dX5_standsBefore_14 : decode cX5_standsBefore 14 = .ok (.iload_n 2, 1) := by decide +kernel
theorem dX5_standsBefore_15 : decode cX5_standsBefore 15 = .ok (.invokevirtual 57, 3) := by decide +kernel
theorem dX5_standsBefore_18 : decode cX5_standsBefore 18 = .ok (.isub, 1) := by decide +kernel
theorem dX5_standsBefore_19 : decode cX5_standsBefore 19 = .ok (.istore_n 3, 1) := by decide +kernel
theorem dX5_standsBefore_20 : decode cX5_standsBefore 20 = .ok (.iload_n 3, 1) := by decide +kernel
theorem dX5_standsBefore_21 : decode cX5_standsBefore 21 = .ok (.ifCond .lt 28, 3) := by decide +kernel
theorem dX5_standsBefore_24 : decode cX5_standsBefore 24 = .ok (.iload_n 3, 1) := by decide +kernel
