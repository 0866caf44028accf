theorem dX4_copyFrom_11 : decode cX4_copyFrom 11 = .ok (.aload_n 0, 1) := by decide +kernel
theorem dX4_copyFrom_12 : decode cX4_copyFrom 12 = .ok (.getfield 21, 3) := by decide +kernel
theorem dX4_copyFrom_15 : decode cX4_copyFrom 15 = .ok (.aload_n 1, 1) := by decide +kernel
theorem dX4_copyFrom_16 : decode cX4_copyFrom 16 = .ok (.getfield 21, 3) := by decide +kernel
theorem dX4_copyFrom_19 : decode cX4_copyFrom 19 = .ok (.invokevirtual 33, 3) := by decide +kernel
theorem dX4_copyFrom_22 : decode cX4_copyFrom 22 = .ok (.aload_n 1, 1) := by decide +kernel
theorem dX4_copyFrom_23 : decode cX4_copyFrom 23 = .ok (.getfield 25, 3) := by decide +kernel
theorem dX4_copyFrom_26 : decode cX4_copyFrom 26 = .ok (.iconst 0, 1) := by decide +kernel
theorem dX4_copyFrom_27 : decode cX4_copyFrom 27 = .ok (.aload_n 0, 1) := by decide +kernel
theorem dX4_copyFrom_28 : decode cX4_copyFrom 28 = .ok (.getfield 25, 3) := by decide +kernel
theorem dX4_copyFrom_31 : decode cX4_copyFrom 31 = .ok (.iconst 0, 1) := by decide +kernel
theorem dX4_copyFrom_32 : decode cX4_copyFrom 32 = .ok (.aload_n 0, 1) := by decide +kernel
theorem dX4_copyFrom_33 : decode cX4_copyFrom 33 = .ok (.getfield 25, 3) := by decide +kernel
theorem dX4_copyFrom_36 : decode cX4_copyFrom 36 = .ok (.arraylength, 1) := by decide +kernel
theorem dX4_copyFrom_37 : decode cX4_copyFrom 37 = .ok (.invokestatic 36, 3) := by decide +kernel
theorem dX4_copyFrom_40 : decode cX4_copyFrom 40 = .ok (.return_, 1) := by decide +kernel
theorem dX4_setting_0 : decode cX4_setting 0 = .ok (.iload_n 1, 1) := by decide +kernel
theorem dX4_setting_1 : decode cX4_setting 1 = .ok (.ifCond .lt 21, 3) := by decide +kernel
theorem dX4_setting_4 : decode cX4_setting 4 = .ok (.iload_n 1, 1) := by decide +kernel
theorem dX4_setting_5 : decode cX4_setting 5 = .ok (.aload_n 0, 1) := by decide +kernel
theorem dX4_setting_6 : decode cX4_setting 6 = .ok (.getfield 25, 3) := by decide +kernel
theorem dX4_setting_9 : decode cX4_setting 9 = .ok (.arraylength, 1) := by decide +kernel
theorem dX4_setting_10 : decode cX4_setting 10 = .ok (.if_icmp .ge 12, 3) := by decide +kernel
theorem dX4_setting_13 : decode cX4_setting 13 = .ok (.aload_n 0, 1) := by decide +kernel
theorem dX4_setting_14 : decode cX4_setting 14 = .ok (.getfield 25, 3) := by decide +kernel
theorem dX4_setting_17 : decode cX4_setting 17 = .ok (.iload_n 1, 1) := by decide +kernel
theorem dX4_setting_18 : decode cX4_setting 18 = .ok (.iaload, 1) := by decide +kernel
theorem dX4_setting_19 : decode cX4_setting 19 = .ok (.goto 5, 3) := by decide +kernel
theorem dX4_setting_22 : decode cX4_setting 22 = .ok (.bipush (-5), 2) := by decide +kernel
theorem dX4_setting_24 : decode cX4_setting 24 = .ok (.ireturn, 1) := by decide +kernel
theorem dX5_init_0 : decode cX5_init 0 = .ok (.aload_n 0, 1) := by decide +kernel
theorem dX5_init_1 : decode cX5_init 1 = .ok (.invokespecial 3, 3) := by decide +kernel
theorem dX5_init_4 : decode cX5_init 4 = .ok (.aload_n 0, 1) := by decide +kernel
theorem dX5_init_5 : decode cX5_init 5 = .ok (.bipush 40, 2) := by decide +kernel
theorem dX5_init_7 : decode cX5_init 7 = .ok (.newarray .int, 2) := by decide +kernel
theorem dX5_init_9 : decode cX5_init 9 = .ok (.putfield 9, 3) := by decide +kernel
theorem dX5_init_12 : decode cX5_init 12 = .ok (.aload_n 0, 1) := by decide +kernel
theorem dX5_init_13 : decode cX5_init 13 = .ok (.bipush 40, 2) := by decide +kernel
theorem dX5_init_15 : decode cX5_init 15 = .ok (.newarray .int, 2) := by decide +kernel
theorem dX5_init_17 : decode cX5_init 17 = .ok (.putfield 15, 3) := by decide +kernel
theorem dX5_init_20 : decode cX5_init 20 = .ok (.aload_n 0, 1) := by decide +kernel
theorem dX5_init_21 : decode cX5_init 21 = .ok (.bipush 40, 2) := by decide +kernel
theorem dX5_init_23 : decode cX5_init 23 = .ok (.newarray .int, 2) := by decide +kernel
theorem dX5_init_25 : decode cX5_init 25 = .ok (.putfield 18, 3) := by decide +kernel
theorem dX5_init_28 : decode cX5_init 28 = .ok (.aload_n 0, 1) := by decide +kernel
theorem dX5_init_29 : decode cX5_init 29 = .ok (.bipush 40, 2) := by decide +kernel
theorem dX5_init_31 : decode cX5_init 31 = .ok (.newarray .int, 2) := by decide +kernel
theorem dX5_init_33 : decode cX5_init 33 = .ok (.putfield 21, 3) := by decide +kernel
theorem dX5_init_36 : decode cX5_init 36 = .ok (.aload_n 0, 1) := by decide +kernel
theorem dX5_init_37 : decode cX5_init 37 = .ok (.bipush 40, 2) := by decide +kernel
theorem dX5_init_39 : decode cX5_init 39 = .ok (.newarray .int, 2) := by decide +kernel
theorem dX5_init_41 : decode cX5_init 41 = .ok (.putfield 24, 3) := by decide +kernel
theorem dX5_init_44 : decode cX5_init 44 = .ok (.aload_n 0, 1) := by decide +kernel
theorem dX5_init_45 : decode cX5_init 45 = .ok (.bipush 40, 2) := by decide +kernel
theorem dX5_init_47 : decode cX5_init 47 = .ok (.newarray .int, 2) := by decide +kernel
theorem dX5_init_49 : decode cX5_init 49 = .ok (.putfield 27, 3) := by decide +kernel
theorem dX5_init_52 : decode cX5_init 52 = .ok (.return_, 1) := by decide +kernel
set_option maxRecDepth 20000 in
theorem ggX5_gather_X3_size : GoodIn wsX5_gather wsX3_size := goodIn_r _ [10, 11, 57, 58, 59, 60, 61, 62, 63, 64, 65, 66] (by decide +kernel) (by decide +kernel)
set_option maxRecDepth 20000 in
theorem gX5_gather_X3_size : GoodIn wsX5_gather (wsV RX5 34 RX3 yX3_size wsX3_size) := goodIn_app (goodIn_of _ (by decide +kernel)) ggX5_gather_X3_size
set_option maxRecDepth 20000 in
theorem ggX5_gather_X3_isOf : GoodIn wsX5_gather wsX3_isOf := goodIn_r _ [15, 16, 17, 18, 19, 20, 21, 22, 23, 24, 25, 26, 27, 57, 58, 59, 60, 61, 62, 63, 64, 65, 66, 67, 68] (by decide +kernel) (by decide +kernel)
set_option maxRecDepth 20000 in
theorem gX5_gather_X3_isOf : GoodIn wsX5_gather (wsV RX5 39 RX3 yX3_isOf wsX3_isOf) := goodIn_app (goodIn_of _ (by decide +kernel)) ggX5_gather_X3_isOf
set_option maxRecDepth 20000 in
theorem ggX5_gather_X3_isStraight : GoodIn wsX5_gather wsX3_isStraight := goodIn_r _ [31, 16, 17, 18, 19, 20, 21, 22, 23, 24, 25, 26, 27, 57, 58, 59, 60, 61, 62, 63, 64, 65, 66, 67, 68] (by decide +kernel) (by decide +kernel)
set_option maxRecDepth 20000 in
theorem gX5_gather_X3_isStraight : GoodIn wsX5_gather (wsV RX5 43 RX3 yX3_isStraight wsX3_isStraight) := goodIn_app (goodIn_of _ (by decide +kernel)) ggX5_gather_X3_isStraight
set_option maxRecDepth 20000 in
theorem ggX5_gather_X3_cardAt : GoodIn wsX5_gather wsX3_cardAt := goodIn_r _ [35, 36, 37, 38, 39, 9, 40, 11, 57, 58, 59, 60, 61, 62, 63, 64, 65, 66] (by decide +kernel) (by decide +kernel)
set_option maxRecDepth 20000 in
theorem gX5_gather_X3_cardAt : GoodIn wsX5_gather (wsV RX5 47 RX3 yX3_cardAt wsX3_cardAt) := goodIn_app (goodIn_of _ (by decide +kernel)) ggX5_gather_X3_cardAt
set_option maxRecDepth 20000 in
theorem ggX5_gather_X3_hourAt : GoodIn wsX5_gather wsX3_hourAt := goodIn_r _ [44, 16, 17, 18, 19, 20, 21, 22, 23, 24, 25, 26, 27, 57, 58, 59, 60, 61, 62, 63, 64, 65, 66, 67, 68] (by decide +kernel) (by decide +kernel)
set_option maxRecDepth 20000 in
theorem gX5_gather_X3_hourAt : GoodIn wsX5_gather (wsV RX5 51 RX3 yX3_hourAt wsX3_hourAt) := goodIn_app (goodIn_of _ (by decide +kernel)) ggX5_gather_X3_hourAt
set_option maxRecDepth 20000 in
theorem ggX5_gather_X3_slotAt : GoodIn wsX5_gather wsX3_slotAt := goodIn_r _ [48, 49, 37, 38, 39, 9, 40, 11, 57, 58, 59, 60, 61, 62, 63, 64, 65, 66] (by decide +kernel) (by decide +kernel)
set_option maxRecDepth 20000 in
theorem gX5_gather_X3_slotAt : GoodIn wsX5_gather (wsV RX5 54 RX3 yX3_slotAt wsX3_slotAt) := goodIn_app (goodIn_of _ (by decide +kernel)) ggX5_gather_X3_slotAt
theorem dX5_gather_0 : decode cX5_gather 0 = .ok (.aload_n 0, 1) := by decide +kernel
theorem dX5_gather_1 : decode cX5_gather 1 = .ok (.iconst 0, 1) := by decide +kernel
theorem dX5_gather_2 : decode cX5_gather 2 = .ok (.putfield 30, 3) := by decide +kernel
theorem dX5_gather_5 : decode cX5_gather 5 = .ok (.iconst 0, 1) := by decide +kernel
theorem dX5_gather_6 : decode cX5_gather 6 = .ok (.istore_n 3, 1) := by decide +kernel
theorem dX5_gather_7 : decode cX5_gather 7 = .ok (.iload_n 3, 1) := by decide +kernel
theorem dX5_gather_8 : decode cX5_gather 8 = .ok (.aload_n 1, 1) := by decide +kernel
theorem dX5_gather_9 : decode cX5_gather 9 = .ok (.invokevirtual 34, 3) := by decide +kernel
theorem dX5_gather_12 : decode cX5_gather 12 = .ok (.if_icmp .ge 97, 3) := by decide +kernel
theorem dX5_gather_15 : decode cX5_gather 15 = .ok (.aload_n 0, 1) := by decide +kernel
theorem dX5_gather_16 : decode cX5_gather 16 = .ok (.getfield 30, 3) := by decide +kernel
theorem dX5_gather_19 : decode cX5_gather 19 = .ok (.bipush 40, 2) := by decide +kernel
theorem dX5_gather_21 : decode cX5_gather 21 = .ok (.if_icmp .ge 88, 3) := by decide +kernel
theorem dX5_gather_24 : decode cX5_gather 24 = .ok (.aload_n 1, 1) := by decide +kernel
theorem dX5_gather_25 : decode cX5_gather 25 = .ok (.iload_n 3, 1) := by decide +kernel
theorem dX5_gather_26 : decode cX5_gather 26 = .ok (.iload_n 2, 1) := by decide +kernel
theorem dX5_gather_27 : decode cX5_gather 27 = .ok (.invokevirtual 39, 3) := by decide +kernel
theorem dX5_gather_30 : decode cX5_gather 30 = .ok (.ifCond .eq 73, 3) := by decide +kernel
theorem dX5_gather_33 : decode cX5_gather 33 = .ok (.aload_n 1, 1) := by decide +kernel
theorem dX5_gather_34 : decode cX5_gather 34 = .ok (.iload_n 3, 1) := by decide +kernel
theorem dX5_gather_35 : decode cX5_gather 35 = .ok (.invokevirtual 43, 3) := by decide +kernel
theorem dX5_gather_38 : decode cX5_gather 38 = .ok (.ifCond .eq 65, 3) := by decide +kernel
theorem dX5_gather_41 : decode cX5_gather 41 = .ok (.aload_n 0, 1) := by decide +kernel
theorem dX5_gather_42 : decode cX5_gather 42 = .ok (.getfield 9, 3) := by decide +kernel
theorem dX5_gather_45 : decode cX5_gather 45 = .ok (.aload_n 0, 1) := by decide +kernel
theorem dX5_gather_46 : decode cX5_gather 46 = .ok (.getfield 30, 3) := by decide +kernel
theorem dX5_gather_49 : decode cX5_gather 49 = .ok (.iload_n 3, 1) := by decide +kernel
theorem dX5_gather_50 : decode cX5_gather 50 = .ok (.iastore, 1) := by decide +kernel
theorem dX5_gather_51 : decode cX5_gather 51 = .ok (.aload_n 0, 1) := by decide +kernel
theorem dX5_gather_52 : decode cX5_gather 52 = .ok (.getfield 15, 3) := by decide +kernel
theorem dX5_gather_55 : decode cX5_gather 55 = .ok (.aload_n 0, 1) := by decide +kernel
theorem dX5_gather_56 : decode cX5_gather 56 = .ok (.getfield 30, 3) := by decide +kernel
theorem dX5_gather_59 : decode cX5_gather 59 = .ok (.aload_n 1, 1) := by decide +kernel
theorem dX5_gather_60 : decode cX5_gather 60 = .ok (.iload_n 3, 1) := by decide +kernel
theorem dX5_gather_61 : decode cX5_gather 61 = .ok (.invokevirtual 47, 3) := by decide +kernel
theorem dX5_gather_64 : decode cX5_gather 64 = .ok (.iastore, 1) := by decide +kernel
theorem dX5_gather_65 : decode cX5_gather 65 = .ok (.aload_n 0, 1) := by decide +kernel
theorem dX5_gather_66 : decode cX5_gather 66 = .ok (.getfield 18, 3) := by decide +kernel
theorem dX5_gather_69 : decode cX5_gather 69 = .ok (.aload_n 0, 1) := by decide +kernel
theorem dX5_gather_70 : decode cX5_gather 70 = .ok (.getfield 30, 3) := by decide +kernel
theorem dX5_gather_73 : decode cX5_gather 73 = .ok (.aload_n 1, 1) := by decide +kernel
theorem dX5_gather_74 : decode cX5_gather 74 = .ok (.iload_n 3, 1) := by decide +kernel
theorem dX5_gather_75 : decode cX5_gather 75 = .ok (.invokevirtual 51, 3) := by decide +kernel
theorem dX5_gather_78 : decode cX5_gather 78 = .ok (.iastore, 1) := by decide +kernel
theorem dX5_gather_79 : decode cX5_gather 79 = .ok (.aload_n 0, 1) := by decide +kernel
theorem dX5_gather_80 : decode cX5_gather 80 = .ok (.getfield 21, 3) := by decide +kernel
theorem dX5_gather_83 : decode cX5_gather 83 = .ok (.aload_n 0, 1) := by decide +kernel
theorem dX5_gather_84 : decode cX5_gather 84 = .ok (.getfield 30, 3) := by decide +kernel
theorem dX5_gather_87 : decode cX5_gather 87 = .ok (.aload_n 1, 1) := by decide +kernel
theorem dX5_gather_88 : decode cX5_gather 88 = .ok (.iload_n 3, 1) := by decide +kernel
theorem dX5_gather_89 : decode cX5_gather 89 = .ok (.invokevirtual 54, 3) := by decide +kernel
theorem dX5_gather_92 : decode cX5_gather 92 = .ok (.iastore, 1) := by decide +kernel
theorem dX5_gather_93 : decode cX5_gather 93 = .ok (.aload_n 0, 1) := by decide +kernel
theorem dX5_gather_94 : decode cX5_gather 94 = .ok (.dup, 1) := by decide +kernel
theorem dX5_gather_95 : decode cX5_gather 95 = .ok (.getfield 30, 3) := by decide +kernel
theorem dX5_gather_98 : decode cX5_gather 98 = .ok (.iconst 1, 1) := by decide +kernel
theorem dX5_gather_99 : decode cX5_gather 99 = .ok (.iadd, 1) := by decide +kernel
theorem dX5_gather_100 : decode cX5_gather 100 = .ok (.putfield 30, 3) := by decide +kernel
theorem dX5_gather_103 : decode cX5_gather 103 = .ok (.iinc 3 1, 3) := by decide +kernel
theorem dX5_gather_106 : decode cX5_gather 106 = .ok (.goto (-99), 3) := by decide +kernel
theorem dX5_gather_109 : decode cX5_gather 109 = .ok (.return_, 1) := by decide +kernel
theorem dX5_valueAt_0 : decode cX5_valueAt 0 = .ok (.iload_n 2, 1) := by decide +kernel
theorem dX5_valueAt_1 : decode cX5_valueAt 1 = .ok (.ifCond .lt 23, 3) := by decide +kernel
theorem dX5_valueAt_4 : decode cX5_valueAt 4 = .ok (.iload_n 2, 1) := by decide +kernel
theorem dX5_valueAt_5 : decode cX5_valueAt 5 = .ok (.aload_n 0, 1) := by decide +kernel
theorem dX5_valueAt_6 : decode cX5_valueAt 6 = .ok (.getfield 30, 3) := by decide +kernel
theorem dX5_valueAt_9 : decode cX5_valueAt 9 = .ok (.if_icmp .ge 15, 3) := by decide +kernel
theorem dX5_valueAt_12 : decode cX5_valueAt 12 = .ok (.iload_n 2, 1) := by decide +kernel
theorem dX5_valueAt_13 : decode cX5_valueAt 13 = .ok (.aload_n 1, 1) := by decide +kernel
theorem dX5_valueAt_14 : decode cX5_valueAt 14 = .ok (.arraylength, 1) := by decide +kernel
theorem dX5_valueAt_15 : decode cX5_valueAt 15 = .ok (.if_icmp .ge 9, 3) := by decide +kernel
theorem dX5_valueAt_18 : decode cX5_valueAt 18 = .ok (.aload_n 1, 1) := by decide +kernel
theorem dX5_valueAt_19 : decode cX5_valueAt 19 = .ok (.iload_n 2, 1) := by decide +kernel
theorem dX5_valueAt_20 : decode cX5_valueAt 20 = .ok (.iaload, 1) := by decide +kernel
theorem dX5_valueAt_21 : decode cX5_valueAt 21 = .ok (.goto 5, 3) := by decide +kernel
theorem dX5_valueAt_24 : decode cX5_valueAt 24 = .ok (.bipush (-5), 2) := by decide +kernel
theorem dX5_valueAt_26 : decode cX5_valueAt 26 = .ok (.ireturn, 1) := by decide +kernel
set_option maxRecDepth 20000 in
theorem ggX5_breaksMadeBy_X5_valueAt : GoodIn wsX5_breaksMadeBy wsX5_valueAt := goodIn_r _ [8, 1, 9, 10, 11, 12, 13, 14, 15] (by decide +kernel) (by decide +kernel)
set_option maxRecDepth 20000 in
theorem gX5_breaksMadeBy_X5_valueAt : GoodIn wsX5_breaksMadeBy (wsV RX5 57 RX5 yX5_valueAt wsX5_valueAt) := goodIn_app (goodIn_of _ (by decide +kernel)) ggX5_breaksMadeBy_X5_valueAt
theorem dX5_breaksMadeBy_0 : decode cX5_breaksMadeBy 0 = .ok (.iconst 0, 1) := by decide +kernel
theorem dX5_breaksMadeBy_1 : decode cX5_breaksMadeBy 1 = .ok (.istore_n 3, 1) := by decide +kernel
theorem dX5_breaksMadeBy_2 : decode cX5_breaksMadeBy 2 = .ok (.iload_n 3, 1) := by decide +kernel
theorem dX5_breaksMadeBy_3 : decode cX5_breaksMadeBy 3 = .ok (.aload_n 0, 1) := by decide +kernel
theorem dX5_breaksMadeBy_4 : decode cX5_breaksMadeBy 4 = .ok (.getfield 30, 3) := by decide +kernel
theorem dX5_breaksMadeBy_7 : decode cX5_breaksMadeBy 7 = .ok (.if_icmp .ge 22, 3) := by decide +kernel
theorem dX5_breaksMadeBy_10 : decode cX5_breaksMadeBy 10 = .ok (.aload_n 0, 1) := by decide +kernel
theorem dX5_breaksMadeBy_11 : decode cX5_breaksMadeBy 11 = .ok (.aload_n 0, 1) := by decide +kernel
theorem dX5_breaksMadeBy_12 : decode cX5_breaksMadeBy 12 = .ok (.getfield 9, 3) := by decide +kernel
theorem dX5_breaksMadeBy_15 : decode cX5_breaksMadeBy 15 = .ok (.iload_n 3, 1) := by decide +kernel
theorem dX5_breaksMadeBy_16 : decode cX5_breaksMadeBy 16 = .ok (.invokevirtual 57, 3) := by decide +kernel
theorem dX5_breaksMadeBy_19 : decode cX5_breaksMadeBy 19 = .ok (.iload_n 2, 1) := by decide +kernel
theorem dX5_breaksMadeBy_20 : decode cX5_breaksMadeBy 20 = .ok (.if_icmp .ge 9, 3) := by decide +kernel
theorem dX5_breaksMadeBy_23 : decode cX5_breaksMadeBy 23 = .ok (.iinc 3 1, 3) := by decide +kernel
theorem dX5_breaksMadeBy_26 : decode cX5_breaksMadeBy 26 = .ok (.goto (-24), 3) := by decide +kernel
theorem dX5_breaksMadeBy_29 : decode cX5_breaksMadeBy 29 = .ok (.iload_n 3, 1) := by decide +kernel
theorem dX5_breaksMadeBy_30 : decode cX5_breaksMadeBy 30 = .ok (.ifCond .le 7, 3) := by decide +kernel
theorem dX5_breaksMadeBy_33 : decode cX5_breaksMadeBy 33 = .ok (.iconst 1, 1) := by decide +kernel
theorem dX5_breaksMadeBy_34 : decode cX5_breaksMadeBy 34 = .ok (.goto 4, 3) := by decide +kernel
theorem dX5_breaksMadeBy_37 : decode cX5_breaksMadeBy 37 = .ok (.iconst 0, 1) := by decide +kernel
theorem dX5_breaksMadeBy_38 : decode cX5_breaksMadeBy 38 = .ok (.istore 4, 2) := by decide +kernel
theorem dX5_breaksMadeBy_40 : decode cX5_breaksMadeBy 40 = .ok (.iload_n 3, 1) := by decide +kernel
theorem dX5_breaksMadeBy_41 : decode cX5_breaksMadeBy 41 = .ok (.aload_n 0, 1) := by decide +kernel
theorem dX5_breaksMadeBy_42 : decode cX5_breaksMadeBy 42 = .ok (.getfield 30, 3) := by decide +kernel
theorem dX5_breaksMadeBy_45 : decode cX5_breaksMadeBy 45 = .ok (.if_icmp .ge 7, 3) := by decide +kernel
theorem dX5_breaksMadeBy_48 : decode cX5_breaksMadeBy 48 = .ok (.iconst 1, 1) := by decide +kernel
theorem dX5_breaksMadeBy_49 : decode cX5_breaksMadeBy 49 = .ok (.goto 4, 3) := by decide +kernel
theorem dX5_breaksMadeBy_52 : decode cX5_breaksMadeBy 52 = .ok (.iconst 0, 1) := by decide +kernel
theorem dX5_breaksMadeBy_53 : decode cX5_breaksMadeBy 53 = .ok (.istore 5, 2) := by decide +kernel
theorem dX5_breaksMadeBy_55 : decode cX5_breaksMadeBy 55 = .ok (.aload_n 0, 1) := by decide +kernel
theorem dX5_breaksMadeBy_56 : decode cX5_breaksMadeBy 56 = .ok (.aload_n 0, 1) := by decide +kernel
theorem dX5_breaksMadeBy_57 : decode cX5_breaksMadeBy 57 = .ok (.getfield 18, 3) := by decide +kernel
theorem dX5_breaksMadeBy_60 : decode cX5_breaksMadeBy 60 = .ok (.iload_n 3, 1) := by decide +kernel
theorem dX5_breaksMadeBy_61 : decode cX5_breaksMadeBy 61 = .ok (.iconst 1, 1) := by decide +kernel
theorem dX5_breaksMadeBy_62 : decode cX5_breaksMadeBy 62 = .ok (.isub, 1) := by decide +kernel
theorem dX5_breaksMadeBy_63 : decode cX5_breaksMadeBy 63 = .ok (.invokevirtual 57, 3) := by decide +kernel
theorem dX5_breaksMadeBy_66 : decode cX5_breaksMadeBy 66 = .ok (.istore 6, 2) := by decide +kernel
theorem dX5_breaksMadeBy_68 : decode cX5_breaksMadeBy 68 = .ok (.aload_n 0, 1) := by decide +kernel
theorem dX5_breaksMadeBy_69 : decode cX5_breaksMadeBy 69 = .ok (.aload_n 0, 1) := by decide +kernel
theorem dX5_breaksMadeBy_70 : decode cX5_breaksMadeBy 70 = .ok (.getfield 18, 3) := by decide +kernel
theorem dX5_breaksMadeBy_73 : decode cX5_breaksMadeBy 73 = .ok (.iload_n 3, 1) := by decide +kernel
theorem dX5_breaksMadeBy_74 : decode cX5_breaksMadeBy 74 = .ok (.invokevirtual 57, 3) := by decide +kernel
theorem dX5_breaksMadeBy_77 : decode cX5_breaksMadeBy 77 = .ok (.istore 7, 2) := by decide +kernel
theorem dX5_breaksMadeBy_79 : decode cX5_breaksMadeBy 79 = .ok (.iconst 0, 1) := by decide +kernel
theorem dX5_breaksMadeBy_80 : decode cX5_breaksMadeBy 80 = .ok (.istore 8, 2) := by decide +kernel
theorem dX5_breaksMadeBy_82 : decode cX5_breaksMadeBy 82 = .ok (.iload 4, 2) := by decide +kernel
theorem dX5_breaksMadeBy_84 : decode cX5_breaksMadeBy 84 = .ok (.ifCond .eq 12, 3) := by decide +kernel
theorem dX5_breaksMadeBy_87 : decode cX5_breaksMadeBy 87 = .ok (.iload_n 1, 1) := by decide +kernel
theorem dX5_breaksMadeBy_88 : decode cX5_breaksMadeBy 88 = .ok (.iload 6, 2) := by decide +kernel
theorem dX5_breaksMadeBy_90 : decode cX5_breaksMadeBy 90 = .ok (.if_icmp .ge 6, 3) := by decide +kernel
theorem dX5_breaksMadeBy_93 : decode cX5_breaksMadeBy 93 = .ok (.iinc 8 1, 3) := by decide +kernel
theorem dX5_breaksMadeBy_96 : decode cX5_breaksMadeBy 96 = .ok (.iload 5, 2) := by decide +kernel
theorem dX5_breaksMadeBy_98 : decode cX5_breaksMadeBy 98 = .ok (.ifCond .eq 12, 3) := by decide +kernel
theorem dX5_breaksMadeBy_101 : decode cX5_breaksMadeBy 101 = .ok (.iload 7, 2) := by decide +kernel
theorem dX5_breaksMadeBy_103 : decode cX5_breaksMadeBy 103 = .ok (.iload_n 1, 1) := by decide +kernel
theorem dX5_breaksMadeBy_104 : decode cX5_breaksMadeBy 104 = .ok (.if_icmp .ge 6, 3) := by decide +kernel
theorem dX5_breaksMadeBy_107 : decode cX5_breaksMadeBy 107 = .ok (.iinc 8 1, 3) := by decide +kernel
theorem dX5_breaksMadeBy_110 : decode cX5_breaksMadeBy 110 = .ok (.iload 4, 2) := by decide +kernel
theorem dX5_breaksMadeBy_112 : decode cX5_breaksMadeBy 112 = .ok (.ifCond .eq 18, 3) := by decide +kernel
theorem dX5_breaksMadeBy_115 : decode cX5_breaksMadeBy 115 = .ok (.iload 5, 2) := by decide +kernel
theorem dX5_breaksMadeBy_117 : decode cX5_breaksMadeBy 117 = .ok (.ifCond .eq 13, 3) := by decide +kernel
theorem dX5_breaksMadeBy_120 : decode cX5_breaksMadeBy 120 = .ok (.iload 7, 2) := by decide +kernel
theorem dX5_breaksMadeBy_122 : decode cX5_breaksMadeBy 122 = .ok (.iload 6, 2) := by decide +kernel
theorem dX5_breaksMadeBy_124 : decode cX5_breaksMadeBy 124 = .ok (.if_icmp .ge 6, 3) := by decide +kernel
theorem dX5_breaksMadeBy_127 : decode cX5_breaksMadeBy 127 = .ok (.iinc 8 (-1), 3) := by decide +kernel
theorem dX5_breaksMadeBy_130 : decode cX5_breaksMadeBy 130 = .ok (.iload 8, 2) := by decide +kernel
theorem dX5_breaksMadeBy_132 : decode cX5_breaksMadeBy 132 = .ok (.ireturn, 1) := by decide +kernel
theorem dX5_fewestMoves_0 : decode cX5_fewestMoves 0 = .ok (.iconst 0, 1) := by decide +kernel
theorem dX5_fewestMoves_1 : decode cX5_fewestMoves 1 = .ok (.istore_n 1, 1) := by decide +kernel
theorem dX5_fewestMoves_2 : decode cX5_fewestMoves 2 = .ok (.iconst 0, 1) := by decide +kernel
theorem dX5_fewestMoves_3 : decode cX5_fewestMoves 3 = .ok (.istore_n 2, 1) := by decide +kernel
theorem dX5_fewestMoves_4 : decode cX5_fewestMoves 4 = .ok (.iload_n 2, 1) := by decide +kernel
theorem dX5_fewestMoves_5 : decode cX5_fewestMoves 5 = .ok (.aload_n 0, 1) := by decide +kernel
theorem dX5_fewestMoves_6 : decode cX5_fewestMoves 6 = .ok (.getfield 30, 3) := by decide +kernel
theorem dX5_fewestMoves_9 : decode cX5_fewestMoves 9 = .ok (.if_icmp .ge 80, 3) := by decide +kernel
theorem dX5_fewestMoves_12 : decode cX5_fewestMoves 12 = .ok (.iload_n 2, 1) := by decide +kernel
theorem dX5_fewestMoves_13 : decode cX5_fewestMoves 13 = .ok (.bipush 40, 2) := by decide +kernel
theorem dX5_fewestMoves_15 : decode cX5_fewestMoves 15 = .ok (.if_icmp .ge 74, 3) := by decide +kernel
theorem dX5_fewestMoves_18 : decode cX5_fewestMoves 18 = .ok (.iconst 0, 1) := by decide +kernel
theorem dX5_fewestMoves_19 : decode cX5_fewestMoves 19 = .ok (.istore_n 3, 1) := by decide +kernel
theorem dX5_fewestMoves_20 : decode cX5_fewestMoves 20 = .ok (.iconst 0, 1) := by decide +kernel
theorem dX5_fewestMoves_21 : decode cX5_fewestMoves 21 = .ok (.istore 4, 2) := by decide +kernel
theorem dX5_fewestMoves_23 : decode cX5_fewestMoves 23 = .ok (.iload 4, 2) := by decide +kernel
theorem dX5_fewestMoves_25 : decode cX5_fewestMoves 25 = .ok (.iload_n 2, 1) := by decide +kernel
theorem dX5_fewestMoves_26 : decode cX5_fewestMoves 26 = .ok (.if_icmp .ge 37, 3) := by decide +kernel
theorem dX5_fewestMoves_29 : decode cX5_fewestMoves 29 = .ok (.aload_n 0, 1) := by decide +kernel
theorem dX5_fewestMoves_30 : decode cX5_fewestMoves 30 = .ok (.getfield 18, 3) := by decide +kernel
theorem dX5_fewestMoves_33 : decode cX5_fewestMoves 33 = .ok (.iload 4, 2) := by decide +kernel
theorem dX5_fewestMoves_35 : decode cX5_fewestMoves 35 = .ok (.iaload, 1) := by decide +kernel
theorem dX5_fewestMoves_36 : decode cX5_fewestMoves 36 = .ok (.aload_n 0, 1) := by decide +kernel
theorem dX5_fewestMoves_37 : decode cX5_fewestMoves 37 = .ok (.getfield 18, 3) := by decide +kernel
theorem dX5_fewestMoves_40 : decode cX5_fewestMoves 40 = .ok (.iload_n 2, 1) := by decide +kernel
theorem dX5_fewestMoves_41 : decode cX5_fewestMoves 41 = .ok (.iaload, 1) := by decide +kernel
theorem dX5_fewestMoves_42 : decode cX5_fewestMoves 42 = .ok (.if_icmp .gt 15, 3) := by decide +kernel
theorem dX5_fewestMoves_45 : decode cX5_fewestMoves 45 = .ok (.iload_n 3, 1) := by decide +kernel
theorem dX5_fewestMoves_46 : decode cX5_fewestMoves 46 = .ok (.aload_n 0, 1) := by decide +kernel
theorem dX5_fewestMoves_47 : decode cX5_fewestMoves 47 = .ok (.getfield 27, 3) := by decide +kernel
theorem dX5_fewestMoves_50 : decode cX5_fewestMoves 50 = .ok (.iload 4, 2) := by decide +kernel
theorem dX5_fewestMoves_52 : decode cX5_fewestMoves 52 = .ok (.iaload, 1) := by decide +kernel
theorem dX5_fewestMoves_53 : decode cX5_fewestMoves 53 = .ok (.invokestatic 61, 3) := by decide +kernel
theorem dX5_fewestMoves_56 : decode cX5_fewestMoves 56 = .ok (.istore_n 3, 1) := by decide +kernel
theorem dX5_fewestMoves_57 : decode cX5_fewestMoves 57 = .ok (.iinc 4 1, 3) := by decide +kernel
theorem dX5_fewestMoves_60 : decode cX5_fewestMoves 60 = .ok (.goto (-37), 3) := by decide +kernel
theorem dX5_fewestMoves_63 : decode cX5_fewestMoves 63 = .ok (.aload_n 0, 1) := by decide +kernel
theorem dX5_fewestMoves_64 : decode cX5_fewestMoves 64 = .ok (.getfield 27, 3) := by decide +kernel
theorem dX5_fewestMoves_67 : decode cX5_fewestMoves 67 = .ok (.iload_n 2, 1) := by decide +kernel
theorem dX5_fewestMoves_68 : decode cX5_fewestMoves 68 = .ok (.iload_n 3, 1) := by decide +kernel
theorem dX5_fewestMoves_69 : decode cX5_fewestMoves 69 = .ok (.iconst 1, 1) := by decide +kernel
theorem dX5_fewestMoves_70 : decode cX5_fewestMoves 70 = .ok (.iadd, 1) := by decide +kernel
theorem dX5_fewestMoves_71 : decode cX5_fewestMoves 71 = .ok (.iastore, 1) := by decide +kernel
theorem dX5_fewestMoves_72 : decode cX5_fewestMoves 72 = .ok (.iload_n 1, 1) := by decide +kernel
theorem dX5_fewestMoves_73 : decode cX5_fewestMoves 73 = .ok (.aload_n 0, 1) := by decide +kernel
theorem dX5_fewestMoves_74 : decode cX5_fewestMoves 74 = .ok (.getfield 27, 3) := by decide +kernel
theorem dX5_fewestMoves_77 : decode cX5_fewestMoves 77 = .ok (.iload_n 2, 1) := by decide +kernel
theorem dX5_fewestMoves_78 : decode cX5_fewestMoves 78 = .ok (.iaload, 1) := by decide +kernel
theorem dX5_fewestMoves_79 : decode cX5_fewestMoves 79 = .ok (.invokestatic 61, 3) := by decide +kernel
theorem dX5_fewestMoves_82 : decode cX5_fewestMoves 82 = .ok (.istore_n 1, 1) := by decide +kernel
theorem dX5_fewestMoves_83 : decode cX5_fewestMoves 83 = .ok (.iinc 2 1, 3) := by decide +kernel
theorem dX5_fewestMoves_86 : decode cX5_fewestMoves 86 = .ok (.goto (-82), 3) := by decide +kernel
theorem dX5_fewestMoves_89 : decode cX5_fewestMoves 89 = .ok (.aload_n 0, 1) := by decide +kernel
theorem dX5_fewestMoves_90 : decode cX5_fewestMoves 90 = .ok (.getfield 30, 3) := by decide +kernel
theorem dX5_fewestMoves_93 : decode cX5_fewestMoves 93 = .ok (.iload_n 1, 1) := by decide +kernel
theorem dX5_fewestMoves_94 : decode cX5_fewestMoves 94 = .ok (.isub, 1) := by decide +kernel
theorem dX5_fewestMoves_95 : decode cX5_fewestMoves 95 = .ok (.ireturn, 1) := by decide +kernel
set_option maxRecDepth 20000 in
theorem ggX5_sort_X5_standsBefore : GoodIn wsX5_sort wsX5_standsBefore := goodIn_r _ [7, 8, 9, 10, 11, 12, 6, 13, 1, 14, 15, 16, 17, 18, 19, 20] (by decide +kernel) (by decide +kernel)
set_option maxRecDepth 20000 in
theorem gX5_sort_X5_standsBefore : GoodIn wsX5_sort (wsV RX5 67 RX5 yX5_standsBefore wsX5_standsBefore) := goodIn_app (goodIn_of _ (by decide +kernel)) ggX5_sort_X5_standsBefore
theorem dX5_sort_0 : decode cX5_sort 0 = .ok (.iconst 0, 1) := by decide +kernel
theorem dX5_sort_1 : decode cX5_sort 1 = .ok (.istore_n 1, 1) := by decide +kernel
theorem dX5_sort_2 : decode cX5_sort 2 = .ok (.iload_n 1, 1) := by decide +kernel
theorem dX5_sort_3 : decode cX5_sort 3 = .ok (.aload_n 0, 1) := by decide +kernel
theorem dX5_sort_4 : decode cX5_sort 4 = .ok (.getfield 30, 3) := by decide +kernel
theorem dX5_sort_7 : decode cX5_sort 7 = .ok (.if_icmp .ge 64, 3) := by decide +kernel
theorem dX5_sort_10 : decode cX5_sort 10 = .ok (.iload_n 1, 1) := by decide +kernel
theorem dX5_sort_11 : decode cX5_sort 11 = .ok (.bipush 40, 2) := by decide +kernel
theorem dX5_sort_13 : decode cX5_sort 13 = .ok (.if_icmp .ge 58, 3) := by decide +kernel
theorem dX5_sort_16 : decode cX5_sort 16 = .ok (.iload_n 1, 1) := by decide +kernel
theorem dX5_sort_17 : decode cX5_sort 17 = .ok (.istore_n 2, 1) := by decide +kernel
theorem dX5_sort_18 : decode cX5_sort 18 = .ok (.iload_n 2, 1) := by decide +kernel
theorem dX5_sort_19 : decode cX5_sort 19 = .ok (.ifCond .le 39, 3) := by decide +kernel
theorem dX5_sort_22 : decode cX5_sort 22 = .ok (.aload_n 0, 1) := by decide +kernel
theorem dX5_sort_23 : decode cX5_sort 23 = .ok (.iload_n 1, 1) := by decide +kernel
theorem dX5_sort_24 : decode cX5_sort 24 = .ok (.aload_n 0, 1) := by decide +kernel
theorem dX5_sort_25 : decode cX5_sort 25 = .ok (.getfield 24, 3) := by decide +kernel
theorem dX5_sort_28 : decode cX5_sort 28 = .ok (.iload_n 2, 1) := by decide +kernel
theorem dX5_sort_29 : decode cX5_sort 29 = .ok (.iconst 1, 1) := by decide +kernel
theorem dX5_sort_30 : decode cX5_sort 30 = .ok (.isub, 1) := by decide +kernel
theorem dX5_sort_31 : decode cX5_sort 31 = .ok (.iaload, 1) := by decide +kernel
theorem dX5_sort_32 : decode cX5_sort 32 = .ok (.invokevirtual 67, 3) := by decide +kernel
theorem dX5_sort_35 : decode cX5_sort 35 = .ok (.ifCond .eq 23, 3) := by decide +kernel
theorem dX5_sort_38 : decode cX5_sort 38 = .ok (.aload_n 0, 1) := by decide +kernel
theorem dX5_sort_39 : decode cX5_sort 39 = .ok (.getfield 24, 3) := by decide +kernel
theorem dX5_sort_42 : decode cX5_sort 42 = .ok (.iload_n 2, 1) := by decide +kernel
theorem dX5_sort_43 : decode cX5_sort 43 = .ok (.aload_n 0, 1) := by decide +kernel
theorem dX5_sort_44 : decode cX5_sort 44 = .ok (.getfield 24, 3) := by decide +kernel
theorem dX5_sort_47 : decode cX5_sort 47 = .ok (.iload_n 2, 1) := by decide +kernel
theorem dX5_sort_48 : decode cX5_sort 48 = .ok (.iconst 1, 1) := by decide +kernel
theorem dX5_sort_49 : decode cX5_sort 49 = .ok (.isub, 1) := by decide +kernel
theorem dX5_sort_50 : decode cX5_sort 50 = .ok (.iaload, 1) := by decide +kernel
theorem dX5_sort_51 : decode cX5_sort 51 = .ok (.iastore, 1) := by decide +kernel
theorem dX5_sort_52 : decode cX5_sort 52 = .ok (.iinc 2 (-1), 3) := by decide +kernel
theorem dX5_sort_55 : decode cX5_sort 55 = .ok (.goto (-37), 3) := by decide +kernel
theorem dX5_sort_58 : decode cX5_sort 58 = .ok (.aload_n 0, 1) := by decide +kernel
theorem dX5_sort_59 : decode cX5_sort 59 = .ok (.getfield 24, 3) := by decide +kernel
theorem dX5_sort_62 : decode cX5_sort 62 = .ok (.iload_n 2, 1) := by decide +kernel
theorem dX5_sort_63 : decode cX5_sort 63 = .ok (.iload_n 1, 1) := by decide +kernel
theorem dX5_sort_64 : decode cX5_sort 64 = .ok (.iastore, 1) := by decide +kernel
theorem dX5_sort_65 : decode cX5_sort 65 = .ok (.iinc 1 1, 3) := by decide +kernel
theorem dX5_sort_68 : decode cX5_sort 68 = .ok (.goto (-66), 3) := by decide +kernel
theorem dX5_sort_71 : decode cX5_sort 71 = .ok (.return_, 1) := by decide +kernel
set_option maxRecDepth 20000 in
theorem ggX5_standsBefore_X5_valueAt : GoodIn wsX5_standsBefore wsX5_valueAt := goodIn_r _ [7, 8, 9, 10, 11, 12, 13, 14, 15] (by decide +kernel) (by decide +kernel)
set_option maxRecDepth 20000 in
theorem gX5_standsBefore_X5_valueAt : GoodIn wsX5_standsBefore (wsV RX5 57 RX5 yX5_valueAt wsX5_valueAt) := goodIn_app (goodIn_of _ (by decide +kernel)) ggX5_standsBefore_X5_valueAt
theorem dX5_standsBefore_0 : decode cX5_standsBefore 0 = .ok (.aload_n 0, 1) := by decide +kernel
theorem dX5_standsBefore_1 : decode cX5_standsBefore 1 = .ok (.aload_n 0, 1) := by decide +kernel
theorem dX5_standsBefore_2 : decode cX5_standsBefore 2 = .ok (.getfield 18, 3) := by decide +kernel
theorem dX5_standsBefore_5 : decode cX5_standsBefore 5 = .ok (.iload_n 1, 1) := by decide +kernel
theorem dX5_standsBefore_6 : decode cX5_standsBefore 6 = .ok (.invokevirtual 57, 3) := by decide +kernel
theorem dX5_standsBefore_9 : decode cX5_standsBefore 9 = .ok (.aload_n 0, 1) := by decide +kernel
theorem dX5_standsBefore_10 : decode cX5_standsBefore 10 = .ok (.aload_n 0, 1) := by decide +kernel
theorem dX5_standsBefore_11 : decode cX5_standsBefore 11 = .ok (.getfield 18, 3) := by decide +kernel
theorem dX5_standsBefore_14 : decode cX5_standsBefore 14 = .ok (.iload_n 2, 1) := by decide +kernel
theorem dX5_standsBefore_15 : decode cX5_standsBefore 15 = .ok (.invokevirtual 57, 3) := by decide +kernel
theorem dX5_standsBefore_18 : decode cX5_standsBefore 18 = .ok (.isub, 1) := by decide +kernel
theorem dX5_standsBefore_19 : decode cX5_standsBefore 19 = .ok (.istore_n 3, 1) := by decide +kernel
theorem dX5_standsBefore_20 : decode cX5_standsBefore 20 = .ok (.iload_n 3, 1) := by decide +kernel
theorem dX5_standsBefore_21 : decode cX5_standsBefore 21 = .ok (.ifCond .lt 28, 3) := by decide +kernel
theorem dX5_standsBefore_24 : decode cX5_standsBefore 24 = .ok (.iload_n 3, 1) := by decide +kernel
theorem dX5_standsBefore_25 : decode cX5_standsBefore 25 = .ok (.ifCond .ne 28, 3) := by decide +kernel
theorem dX5_standsBefore_28 : decode cX5_standsBefore 28 = .ok (.aload_n 0, 1) := by decide +kernel
theorem dX5_standsBefore_29 : decode cX5_standsBefore 29 = .ok (.aload_n 0, 1) := by decide +kernel
theorem dX5_standsBefore_30 : decode cX5_standsBefore 30 = .ok (.getfield 15, 3) := by decide +kernel
theorem dX5_standsBefore_33 : decode cX5_standsBefore 33 = .ok (.iload_n 1, 1) := by decide +kernel
theorem dX5_standsBefore_34 : decode cX5_standsBefore 34 = .ok (.invokevirtual 57, 3) := by decide +kernel
theorem dX5_standsBefore_37 : decode cX5_standsBefore 37 = .ok (.aload_n 0, 1) := by decide +kernel
theorem dX5_standsBefore_38 : decode cX5_standsBefore 38 = .ok (.aload_n 0, 1) := by decide +kernel
theorem dX5_standsBefore_39 : decode cX5_standsBefore 39 = .ok (.getfield 15, 3) := by decide +kernel
theorem dX5_standsBefore_42 : decode cX5_standsBefore 42 = .ok (.iload_n 2, 1) := by decide +kernel
theorem dX5_standsBefore_43 : decode cX5_standsBefore 43 = .ok (.invokevirtual 57, 3) := by decide +kernel
theorem dX5_standsBefore_46 : decode cX5_standsBefore 46 = .ok (.if_icmp .ge 7, 3) := by decide +kernel
theorem dX5_standsBefore_49 : decode cX5_standsBefore 49 = .ok (.iconst 1, 1) := by decide +kernel
theorem dX5_standsBefore_50 : decode cX5_standsBefore 50 = .ok (.goto 4, 3) := by decide +kernel
theorem dX5_standsBefore_53 : decode cX5_standsBefore 53 = .ok (.iconst 0, 1) := by decide +kernel
theorem dX5_standsBefore_54 : decode cX5_standsBefore 54 = .ok (.ireturn, 1) := by decide +kernel
set_option maxRecDepth 20000 in
theorem ggX5_moved_X5_valueAt : GoodIn wsX5_moved wsX5_valueAt := goodIn_r _ [7, 1, 8, 9, 10, 11, 12, 13, 14] (by decide +kernel) (by decide +kernel)
set_option maxRecDepth 20000 in
theorem gX5_moved_X5_valueAt : GoodIn wsX5_moved (wsV RX5 57 RX5 yX5_valueAt wsX5_valueAt) := goodIn_app (goodIn_of _ (by decide +kernel)) ggX5_moved_X5_valueAt
theorem dX5_moved_0 : decode cX5_moved 0 = .ok (.iconst 0, 1) := by decide +kernel
theorem dX5_moved_1 : decode cX5_moved 1 = .ok (.istore_n 1, 1) := by decide +kernel
theorem dX5_moved_2 : decode cX5_moved 2 = .ok (.iconst 0, 1) := by decide +kernel
theorem dX5_moved_3 : decode cX5_moved 3 = .ok (.istore_n 2, 1) := by decide +kernel
theorem dX5_moved_4 : decode cX5_moved 4 = .ok (.iload_n 2, 1) := by decide +kernel
theorem dX5_moved_5 : decode cX5_moved 5 = .ok (.aload_n 0, 1) := by decide +kernel
theorem dX5_moved_6 : decode cX5_moved 6 = .ok (.getfield 30, 3) := by decide +kernel
theorem dX5_moved_9 : decode cX5_moved 9 = .ok (.if_icmp .ge 25, 3) := by decide +kernel
theorem dX5_moved_12 : decode cX5_moved 12 = .ok (.aload_n 0, 1) := by decide +kernel
theorem dX5_moved_13 : decode cX5_moved 13 = .ok (.aload_n 0, 1) := by decide +kernel
theorem dX5_moved_14 : decode cX5_moved 14 = .ok (.getfield 24, 3) := by decide +kernel
theorem dX5_moved_17 : decode cX5_moved 17 = .ok (.iload_n 2, 1) := by decide +kernel
theorem dX5_moved_18 : decode cX5_moved 18 = .ok (.invokevirtual 57, 3) := by decide +kernel
theorem dX5_moved_21 : decode cX5_moved 21 = .ok (.iload_n 2, 1) := by decide +kernel
theorem dX5_moved_22 : decode cX5_moved 22 = .ok (.if_icmp .eq 6, 3) := by decide +kernel
theorem dX5_moved_25 : decode cX5_moved 25 = .ok (.iinc 1 1, 3) := by decide +kernel
theorem dX5_moved_28 : decode cX5_moved 28 = .ok (.iinc 2 1, 3) := by decide +kernel
theorem dX5_moved_31 : decode cX5_moved 31 = .ok (.goto (-27), 3) := by decide +kernel
theorem dX5_moved_34 : decode cX5_moved 34 = .ok (.iload_n 1, 1) := by decide +kernel
theorem dX5_moved_35 : decode cX5_moved 35 = .ok (.ireturn, 1) := by decide +kernel
set_option maxRecDepth 20000 in
theorem ggX5_putOn_X5_valueAt : GoodIn wsX5_putOn wsX5_valueAt := goodIn_r _ [9, 1, 16, 17, 18, 19, 20, 21, 22] (by decide +kernel) (by decide +kernel)
set_option maxRecDepth 20000 in
theorem gX5_putOn_X5_valueAt : GoodIn wsX5_putOn (wsV RX5 57 RX5 yX5_valueAt wsX5_valueAt) := goodIn_app (goodIn_of _ (by decide +kernel)) ggX5_putOn_X5_valueAt
set_option maxRecDepth 20000 in
theorem ggX5_putOn_X7_put : GoodIn wsX5_putOn wsX7_put := goodIn_r _ [14, 15, 23] (by decide +kernel) (by decide +kernel)
set_option maxRecDepth 20000 in
theorem gX5_putOn_X7_put : GoodIn wsX5_putOn (wsV RX5 70 RX7 yX7_put wsX7_put) := goodIn_app (goodIn_of _ (by decide +kernel)) ggX5_putOn_X7_put
theorem dX5_putOn_0 : decode cX5_putOn 0 = .ok (.iconst 0, 1) := by decide +kernel
theorem dX5_putOn_1 : decode cX5_putOn 1 = .ok (.istore_n 2, 1) := by decide +kernel
theorem dX5_putOn_2 : decode cX5_putOn 2 = .ok (.iload_n 2, 1) := by decide +kernel
theorem dX5_putOn_3 : decode cX5_putOn 3 = .ok (.aload_n 0, 1) := by decide +kernel
theorem dX5_putOn_4 : decode cX5_putOn 4 = .ok (.getfield 30, 3) := by decide +kernel
theorem dX5_putOn_7 : decode cX5_putOn 7 = .ok (.if_icmp .ge 39, 3) := by decide +kernel
theorem dX5_putOn_10 : decode cX5_putOn 10 = .ok (.aload_n 1, 1) := by decide +kernel
theorem dX5_putOn_11 : decode cX5_putOn 11 = .ok (.aload_n 0, 1) := by decide +kernel
theorem dX5_putOn_12 : decode cX5_putOn 12 = .ok (.aload_n 0, 1) := by decide +kernel
theorem dX5_putOn_13 : decode cX5_putOn 13 = .ok (.getfield 21, 3) := by decide +kernel
theorem dX5_putOn_16 : decode cX5_putOn 16 = .ok (.iload_n 2, 1) := by decide +kernel
theorem dX5_putOn_17 : decode cX5_putOn 17 = .ok (.invokevirtual 57, 3) := by decide +kernel
theorem dX5_putOn_20 : decode cX5_putOn 20 = .ok (.aload_n 0, 1) := by decide +kernel
theorem dX5_putOn_21 : decode cX5_putOn 21 = .ok (.aload_n 0, 1) := by decide +kernel
theorem dX5_putOn_22 : decode cX5_putOn 22 = .ok (.getfield 15, 3) := by decide +kernel
theorem dX5_putOn_25 : decode cX5_putOn 25 = .ok (.aload_n 0, 1) := by decide +kernel
theorem dX5_putOn_26 : decode cX5_putOn 26 = .ok (.aload_n 0, 1) := by decide +kernel
theorem dX5_putOn_27 : decode cX5_putOn 27 = .ok (.getfield 24, 3) := by decide +kernel
theorem dX5_putOn_30 : decode cX5_putOn 30 = .ok (.iload_n 2, 1) := by decide +kernel
theorem dX5_putOn_31 : decode cX5_putOn 31 = .ok (.invokevirtual 57, 3) := by decide +kernel
theorem dX5_putOn_34 : decode cX5_putOn 34 = .ok (.invokevirtual 57, 3) := by decide +kernel
theorem dX5_putOn_37 : decode cX5_putOn 37 = .ok (.invokevirtual 70, 3) := by decide +kernel
theorem dX5_putOn_40 : decode cX5_putOn 40 = .ok (.iinc 2 1, 3) := by decide +kernel
theorem dX5_putOn_43 : decode cX5_putOn 43 = .ok (.goto (-41), 3) := by decide +kernel
theorem dX5_putOn_46 : decode cX5_putOn 46 = .ok (.return_, 1) := by decide +kernel
theorem dX6_init_0 : decode cX6_init 0 = .ok (.aload_n 0, 1) := by decide +kernel
theorem dX6_init_1 : decode cX6_init 1 = .ok (.invokespecial 3, 3) := by decide +kernel
theorem dX6_init_4 : decode cX6_init 4 = .ok (.aload_n 0, 1) := by decide +kernel
theorem dX6_init_5 : decode cX6_init 5 = .ok (.bipush 16, 2) := by decide +kernel
theorem dX6_init_7 : decode cX6_init 7 = .ok (.newarray .float, 2) := by decide +kernel
theorem dX6_init_9 : decode cX6_init 9 = .ok (.putfield 9, 3) := by decide +kernel
theorem dX6_init_12 : decode cX6_init 12 = .ok (.aload_n 0, 1) := by decide +kernel
theorem dX6_init_13 : decode cX6_init 13 = .ok (.bipush 16, 2) := by decide +kernel
theorem dX6_init_15 : decode cX6_init 15 = .ok (.newarray .int, 2) := by decide +kernel
theorem dX6_init_17 : decode cX6_init 17 = .ok (.putfield 15, 3) := by decide +kernel
theorem dX6_init_20 : decode cX6_init 20 = .ok (.return_, 1) := by decide +kernel
set_option maxRecDepth 20000 in
theorem ggX6_measure_X4_setting : GoodIn wsX6_measure wsX4_setting := goodIn_r _ [9, 10, 56, 57, 58] (by decide +kernel) (by decide +kernel)
set_option maxRecDepth 20000 in
theorem gX6_measure_X4_setting : GoodIn wsX6_measure (wsV RX6 19 RX4 yX4_setting wsX4_setting) := goodIn_app (goodIn_of _ (by decide +kernel)) ggX6_measure_X4_setting
set_option maxRecDepth 20000 in
theorem ggX6_measure_X7_sizeOf : GoodIn wsX6_measure wsX7_sizeOf := goodIn_r _ [15, 16, 17, 18, 14, 19, 20, 21, 22, 23, 24, 25, 26, 27, 28, 29, 59] (by decide +kernel) (by decide +kernel)
set_option maxRecDepth 20000 in
theorem gX6_measure_X7_sizeOf : GoodIn wsX6_measure (wsV RX6 31 RX7 yX7_sizeOf wsX7_sizeOf) := goodIn_app (goodIn_of _ (by decide +kernel)) ggX6_measure_X7_sizeOf
set_option maxRecDepth 20000 in
theorem ggX6_measure_X6_measureScene : GoodIn wsX6_measure wsX6_measureScene := goodIn_r _ [33, 3, 11, 12, 13, 14, 15, 16, 17, 18, 19, 20, 21, 22, 23, 24, 25, 26, 27, 28, 29, 34, 35, 36, 37, 38, 39, 40, 41, 42, 43, 44, 45, 56, 57, 58, 59, 60, 61] (by decide +kernel) (by decide +kernel)
set_option maxRecDepth 20000 in
theorem gX6_measure_X6_measureScene : GoodIn wsX6_measure (va_wsS RX6 36 yX6_measureScene wsX6_measureScene) := goodIn_app (goodIn_of _ (by decide +kernel)) ggX6_measure_X6_measureScene
set_option maxRecDepth 20000 in
theorem ggX6_measure_X6_tensionOf : GoodIn wsX6_measure wsX6_tensionOf := goodIn_r _ [49, 2, 3, 54, 55] (by decide +kernel) (by decide +kernel)
set_option maxRecDepth 20000 in
theorem gX6_measure_X6_tensionOf : GoodIn wsX6_measure (wsV RX6 40 RX6 yX6_tensionOf wsX6_tensionOf) := goodIn_app (goodIn_of _ (by decide +kernel)) ggX6_measure_X6_tensionOf
set_option maxRecDepth 20000 in
theorem ggX6_measure_X6_climbTo : GoodIn wsX6_measure wsX6_climbTo := goodIn_r _ [53, 4, 54, 55] (by decide +kernel) (by decide +kernel)
set_option maxRecDepth 20000 in
theorem gX6_measure_X6_climbTo : GoodIn wsX6_measure (wsV RX6 44 RX6 yX6_climbTo wsX6_climbTo) := goodIn_app (goodIn_of _ (by decide +kernel)) ggX6_measure_X6_climbTo
theorem dX6_measure_0 : decode cX6_measure 0 = .ok (.aload_n 1, 1) := by decide +kernel
theorem dX6_measure_1 : decode cX6_measure 1 = .ok (.iconst 2, 1) := by decide +kernel
theorem dX6_measure_2 : decode cX6_measure 2 = .ok (.invokevirtual 19, 3) := by decide +kernel
theorem dX6_measure_5 : decode cX6_measure 5 = .ok (.i2f, 1) := by decide +kernel
theorem dX6_measure_6 : decode cX6_measure 6 = .ok (.ldc 25, 2) := by decide +kernel
theorem dX6_measure_8 : decode cX6_measure 8 = .ok (.fdiv, 1) := by decide +kernel
theorem dX6_measure_9 : decode cX6_measure 9 = .ok (.fstore_n 2, 1) := by decide +kernel
theorem dX6_measure_10 : decode cX6_measure 10 = .ok (.bipush (-5), 2) := by decide +kernel
theorem dX6_measure_12 : decode cX6_measure 12 = .ok (.istore_n 3, 1) := by decide +kernel
theorem dX6_measure_13 : decode cX6_measure 13 = .ok (.iconst 0, 1) := by decide +kernel
theorem dX6_measure_14 : decode cX6_measure 14 = .ok (.istore 4, 2) := by decide +kernel
theorem dX6_measure_16 : decode cX6_measure 16 = .ok (.iload 4, 2) := by decide +kernel
theorem dX6_measure_18 : decode cX6_measure 18 = .ok (.bipush 16, 2) := by decide +kernel
theorem dX6_measure_20 : decode cX6_measure 20 = .ok (.if_icmp .ge 108, 3) := by decide +kernel
theorem dX6_measure_23 : decode cX6_measure 23 = .ok (.aload_n 0, 1) := by decide +kernel
theorem dX6_measure_24 : decode cX6_measure 24 = .ok (.getfield 9, 3) := by decide +kernel
theorem dX6_measure_27 : decode cX6_measure 27 = .ok (.iload 4, 2) := by decide +kernel
theorem dX6_measure_29 : decode cX6_measure 29 = .ok (.ldc 26, 2) := by decide +kernel
theorem dX6_measure_31 : decode cX6_measure 31 = .ok (.fastore, 1) := by decide +kernel
theorem dX6_measure_32 : decode cX6_measure 32 = .ok (.aload_n 0, 1) := by decide +kernel
theorem dX6_measure_33 : decode cX6_measure 33 = .ok (.getfield 15, 3) := by decide +kernel
theorem dX6_measure_36 : decode cX6_measure 36 = .ok (.iload 4, 2) := by decide +kernel
theorem dX6_measure_38 : decode cX6_measure 38 = .ok (.iconst 0, 1) := by decide +kernel
theorem dX6_measure_39 : decode cX6_measure 39 = .ok (.iastore, 1) := by decide +kernel
theorem dX6_measure_40 : decode cX6_measure 40 = .ok (.aload_n 1, 1) := by decide +kernel
theorem dX6_measure_41 : decode cX6_measure 41 = .ok (.getfield 27, 3) := by decide +kernel
theorem dX6_measure_44 : decode cX6_measure 44 = .ok (.iload 4, 2) := by decide +kernel
theorem dX6_measure_46 : decode cX6_measure 46 = .ok (.invokevirtual 31, 3) := by decide +kernel
theorem dX6_measure_49 : decode cX6_measure 49 = .ok (.ifCond .le 73, 3) := by decide +kernel
theorem dX6_measure_52 : decode cX6_measure 52 = .ok (.aload_n 0, 1) := by decide +kernel
theorem dX6_measure_53 : decode cX6_measure 53 = .ok (.getfield 9, 3) := by decide +kernel
theorem dX6_measure_56 : decode cX6_measure 56 = .ok (.iload 4, 2) := by decide +kernel
theorem dX6_measure_58 : decode cX6_measure 58 = .ok (.aload_n 1, 1) := by decide +kernel
theorem dX6_measure_59 : decode cX6_measure 59 = .ok (.iload 4, 2) := by decide +kernel
theorem dX6_measure_61 : decode cX6_measure 61 = .ok (.invokestatic 36, 3) := by decide +kernel
theorem dX6_measure_64 : decode cX6_measure 64 = .ok (.fastore, 1) := by decide +kernel
theorem dX6_measure_65 : decode cX6_measure 65 = .ok (.iload_n 3, 1) := by decide +kernel
theorem dX6_measure_66 : decode cX6_measure 66 = .ok (.bipush (-5), 2) := by decide +kernel
theorem dX6_measure_68 : decode cX6_measure 68 = .ok (.if_icmp .eq 25, 3) := by decide +kernel
theorem dX6_measure_71 : decode cX6_measure 71 = .ok (.aload_n 0, 1) := by decide +kernel
theorem dX6_measure_72 : decode cX6_measure 72 = .ok (.getfield 9, 3) := by decide +kernel
theorem dX6_measure_75 : decode cX6_measure 75 = .ok (.iload 4, 2) := by decide +kernel
theorem dX6_measure_77 : decode cX6_measure 77 = .ok (.faload, 1) := by decide +kernel
theorem dX6_measure_78 : decode cX6_measure 78 = .ok (.aload_n 0, 1) := by decide +kernel
theorem dX6_measure_79 : decode cX6_measure 79 = .ok (.iload_n 3, 1) := by decide +kernel
theorem dX6_measure_80 : decode cX6_measure 80 = .ok (.invokevirtual 40, 3) := by decide +kernel
theorem dX6_measure_83 : decode cX6_measure 83 = .ok (.fsub, 1) := by decide +kernel
theorem dX6_measure_84 : decode cX6_measure 84 = .ok (.fload_n 2, 1) := by decide +kernel
theorem dX6_measure_85 : decode cX6_measure 85 = .ok (.fcmp .l, 1) := by decide +kernel
theorem dX6_measure_86 : decode cX6_measure 86 = .ok (.ifCond .lt 7, 3) := by decide +kernel
theorem dX6_measure_89 : decode cX6_measure 89 = .ok (.iconst 1, 1) := by decide +kernel
theorem dX6_measure_90 : decode cX6_measure 90 = .ok (.goto 4, 3) := by decide +kernel
theorem dX6_measure_93 : decode cX6_measure 93 = .ok (.iconst 0, 1) := by decide +kernel
theorem dX6_measure_94 : decode cX6_measure 94 = .ok (.istore 5, 2) := by decide +kernel
theorem dX6_measure_96 : decode cX6_measure 96 = .ok (.aload_n 0, 1) := by decide +kernel
theorem dX6_measure_97 : decode cX6_measure 97 = .ok (.getfield 15, 3) := by decide +kernel
theorem dX6_measure_100 : decode cX6_measure 100 = .ok (.iload 4, 2) := by decide +kernel
theorem dX6_measure_102 : decode cX6_measure 102 = .ok (.iload 5, 2) := by decide +kernel
theorem dX6_measure_104 : decode cX6_measure 104 = .ok (.ifCond .eq 13, 3) := by decide +kernel
theorem dX6_measure_107 : decode cX6_measure 107 = .ok (.aload_n 0, 1) := by decide +kernel
theorem dX6_measure_108 : decode cX6_measure 108 = .ok (.iload_n 3, 1) := by decide +kernel
theorem dX6_measure_109 : decode cX6_measure 109 = .ok (.invokevirtual 44, 3) := by decide +kernel
theorem dX6_measure_112 : decode cX6_measure 112 = .ok (.iconst 1, 1) := by decide +kernel
theorem dX6_measure_113 : decode cX6_measure 113 = .ok (.iadd, 1) := by decide +kernel
theorem dX6_measure_114 : decode cX6_measure 114 = .ok (.goto 4, 3) := by decide +kernel
theorem dX6_measure_117 : decode cX6_measure 117 = .ok (.iconst 1, 1) := by decide +kernel
theorem dX6_measure_118 : decode cX6_measure 118 = .ok (.iastore, 1) := by decide +kernel
theorem dX6_measure_119 : decode cX6_measure 119 = .ok (.iload 4, 2) := by decide +kernel
theorem dX6_measure_121 : decode cX6_measure 121 = .ok (.istore_n 3, 1) := by decide +kernel
theorem dX6_measure_122 : decode cX6_measure 122 = .ok (.iinc 4 1, 3) := by decide +kernel
theorem dX6_measure_125 : decode cX6_measure 125 = .ok (.goto (-109), 3) := by decide +kernel
theorem dX6_measure_128 : decode cX6_measure 128 = .ok (.return_, 1) := by decide +kernel
set_option maxRecDepth 20000 in
theorem ggX6_measureScene_X7_sizeOf : GoodIn wsX6_measureScene wsX7_sizeOf := goodIn_r _ [6, 7, 8, 9, 5, 10, 11, 12, 13, 14, 15, 16, 17, 18, 19, 20, 36] (by decide +kernel) (by decide +kernel)
set_option maxRecDepth 20000 in
theorem gX6_measureScene_X7_sizeOf : GoodIn wsX6_measureScene (wsV RX6 31 RX7 yX7_sizeOf wsX7_sizeOf) := goodIn_app (goodIn_of _ (by decide +kernel)) ggX6_measureScene_X7_sizeOf
set_option maxRecDepth 20000 in
theorem ggX6_measureScene_X7_cardIn : GoodIn wsX6_measureScene wsX7_cardIn := goodIn_r _ [10, 11, 12, 13, 14, 15, 16, 17, 18, 5, 19, 20, 36] (by decide +kernel) (by decide +kernel)
set_option maxRecDepth 20000 in
theorem gX6_measureScene_X7_cardIn : GoodIn wsX6_measureScene (wsV RX6 47 RX7 yX7_cardIn wsX7_cardIn) := goodIn_app (goodIn_of _ (by decide +kernel)) ggX6_measureScene_X7_cardIn
set_option maxRecDepth 20000 in
theorem ggX6_measureScene_X1_number : GoodIn wsX6_measureScene wsX1_number := goodIn_r _ [26, 27, 28, 29, 30, 25, 31, 32, 37, 38] (by decide +kernel) (by decide +kernel)
set_option maxRecDepth 20000 in
theorem gX6_measureScene_X1_number : GoodIn wsX6_measureScene (wsV RX6 55 RX1 yX1_number wsX1_number) := goodIn_app (goodIn_of _ (by decide +kernel)) ggX6_measureScene_X1_number
theorem dX6_measureScene_0 : decode cX6_measureScene 0 = .ok (.fconst 0, 1) := by decide +kernel
theorem dX6_measureScene_1 : decode cX6_measureScene 1 = .ok (.fstore_n 2, 1) := by decide +kernel
theorem dX6_measureScene_2 : decode cX6_measureScene 2 = .ok (.iconst 0, 1) := by decide +kernel
theorem dX6_measureScene_3 : decode cX6_measureScene 3 = .ok (.istore_n 3, 1) := by decide +kernel
theorem dX6_measureScene_4 : decode cX6_measureScene 4 = .ok (.iconst 0, 1) := by decide +kernel
theorem dX6_measureScene_5 : decode cX6_measureScene 5 = .ok (.istore 4, 2) := by decide +kernel
theorem dX6_measureScene_7 : decode cX6_measureScene 7 = .ok (.iload 4, 2) := by decide +kernel
theorem dX6_measureScene_9 : decode cX6_measureScene 9 = .ok (.aload_n 0, 1) := by decide +kernel
theorem dX6_measureScene_10 : decode cX6_measureScene 10 = .ok (.getfield 27, 3) := by decide +kernel
theorem dX6_measureScene_13 : decode cX6_measureScene 13 = .ok (.iload_n 1, 1) := by decide +kernel
theorem dX6_measureScene_14 : decode cX6_measureScene 14 = .ok (.invokevirtual 31, 3) := by decide +kernel
theorem dX6_measureScene_17 : decode cX6_measureScene 17 = .ok (.if_icmp .ge 56, 3) := by decide +kernel
theorem dX6_measureScene_20 : decode cX6_measureScene 20 = .ok (.aload_n 0, 1) := by decide +kernel
theorem dX6_measureScene_21 : decode cX6_measureScene 21 = .ok (.getfield 27, 3) := by decide +kernel
theorem dX6_measureScene_24 : decode cX6_measureScene 24 = .ok (.iload_n 1, 1) := by decide +kernel
theorem dX6_measureScene_25 : decode cX6_measureScene 25 = .ok (.iload 4, 2) := by decide +kernel
theorem dX6_measureScene_27 : decode cX6_measureScene 27 = .ok (.invokevirtual 47, 3) := by decide +kernel
theorem dX6_measureScene_30 : decode cX6_measureScene 30 = .ok (.istore 5, 2) := by decide +kernel
theorem dX6_measureScene_32 : decode cX6_measureScene 32 = .ok (.aload_n 0, 1) := by decide +kernel
theorem dX6_measureScene_33 : decode cX6_measureScene 33 = .ok (.getfield 51, 3) := by decide +kernel
theorem dX6_measureScene_36 : decode cX6_measureScene 36 = .ok (.iload 5, 2) := by decide +kernel
theorem dX6_measureScene_38 : decode cX6_measureScene 38 = .ok (.iconst 2, 1) := by decide +kernel
theorem dX6_measureScene_39 : decode cX6_measureScene 39 = .ok (.invokevirtual 55, 3) := by decide +kernel
theorem dX6_measureScene_42 : decode cX6_measureScene 42 = .ok (.istore 6, 2) := by decide +kernel
theorem dX6_measureScene_44 : decode cX6_measureScene 44 = .ok (.fload_n 2, 1) := by decide +kernel
theorem dX6_measureScene_45 : decode cX6_measureScene 45 = .ok (.aload_n 0, 1) := by decide +kernel
theorem dX6_measureScene_46 : decode cX6_measureScene 46 = .ok (.getfield 51, 3) := by decide +kernel
theorem dX6_measureScene_49 : decode cX6_measureScene 49 = .ok (.iload 5, 2) := by decide +kernel
theorem dX6_measureScene_51 : decode cX6_measureScene 51 = .ok (.iconst 3, 1) := by decide +kernel
theorem dX6_measureScene_52 : decode cX6_measureScene 52 = .ok (.invokevirtual 55, 3) := by decide +kernel
theorem dX6_measureScene_55 : decode cX6_measureScene 55 = .ok (.i2f, 1) := by decide +kernel
theorem dX6_measureScene_56 : decode cX6_measureScene 56 = .ok (.iload 6, 2) := by decide +kernel
theorem dX6_measureScene_58 : decode cX6_measureScene 58 = .ok (.i2f, 1) := by decide +kernel
theorem dX6_measureScene_59 : decode cX6_measureScene 59 = .ok (.fmul, 1) := by decide +kernel
theorem dX6_measureScene_60 : decode cX6_measureScene 60 = .ok (.fadd, 1) := by decide +kernel
theorem dX6_measureScene_61 : decode cX6_measureScene 61 = .ok (.fstore_n 2, 1) := by decide +kernel
theorem dX6_measureScene_62 : decode cX6_measureScene 62 = .ok (.iload_n 3, 1) := by decide +kernel
theorem dX6_measureScene_63 : decode cX6_measureScene 63 = .ok (.iload 6, 2) := by decide +kernel
theorem dX6_measureScene_65 : decode cX6_measureScene 65 = .ok (.iadd, 1) := by decide +kernel
theorem dX6_measureScene_66 : decode cX6_measureScene 66 = .ok (.istore_n 3, 1) := by decide +kernel
theorem dX6_measureScene_67 : decode cX6_measureScene 67 = .ok (.iinc 4 1, 3) := by decide +kernel
theorem dX6_measureScene_70 : decode cX6_measureScene 70 = .ok (.goto (-63), 3) := by decide +kernel
theorem dX6_measureScene_73 : decode cX6_measureScene 73 = .ok (.iload_n 3, 1) := by decide +kernel
theorem dX6_measureScene_74 : decode cX6_measureScene 74 = .ok (.ifCond .le 10, 3) := by decide +kernel
theorem dX6_measureScene_77 : decode cX6_measureScene 77 = .ok (.fload_n 2, 1) := by decide +kernel
theorem dX6_measureScene_78 : decode cX6_measureScene 78 = .ok (.iload_n 3, 1) := by decide +kernel
theorem dX6_measureScene_79 : decode cX6_measureScene 79 = .ok (.i2f, 1) := by decide +kernel
theorem dX6_measureScene_80 : decode cX6_measureScene 80 = .ok (.fdiv, 1) := by decide +kernel
theorem dX6_measureScene_81 : decode cX6_measureScene 81 = .ok (.goto 5, 3) := by decide +kernel
theorem dX6_measureScene_84 : decode cX6_measureScene 84 = .ok (.ldc 26, 2) := by decide +kernel
theorem dX6_measureScene_86 : decode cX6_measureScene 86 = .ok (.freturn, 1) := by decide +kernel
theorem dX6_tensionOf_0 : decode cX6_tensionOf 0 = .ok (.iload_n 1, 1) := by decide +kernel
theorem dX6_tensionOf_1 : decode cX6_tensionOf 1 = .ok (.ifCond .lt 21, 3) := by decide +kernel
theorem dX6_tensionOf_4 : decode cX6_tensionOf 4 = .ok (.iload_n 1, 1) := by decide +kernel
theorem dX6_tensionOf_5 : decode cX6_tensionOf 5 = .ok (.aload_n 0, 1) := by decide +kernel
theorem dX6_tensionOf_6 : decode cX6_tensionOf 6 = .ok (.getfield 9, 3) := by decide +kernel
theorem dX6_tensionOf_9 : decode cX6_tensionOf 9 = .ok (.arraylength, 1) := by decide +kernel
theorem dX6_tensionOf_10 : decode cX6_tensionOf 10 = .ok (.if_icmp .ge 12, 3) := by decide +kernel
theorem dX6_tensionOf_13 : decode cX6_tensionOf 13 = .ok (.aload_n 0, 1) := by decide +kernel
theorem dX6_tensionOf_14 : decode cX6_tensionOf 14 = .ok (.getfield 9, 3) := by decide +kernel
theorem dX6_tensionOf_17 : decode cX6_tensionOf 17 = .ok (.iload_n 1, 1) := by decide +kernel
theorem dX6_tensionOf_18 : decode cX6_tensionOf 18 = .ok (.faload, 1) := by decide +kernel
theorem dX6_tensionOf_19 : decode cX6_tensionOf 19 = .ok (.goto 5, 3) := by decide +kernel
theorem dX6_tensionOf_22 : decode cX6_tensionOf 22 = .ok (.ldc 26, 2) := by decide +kernel
theorem dX6_tensionOf_24 : decode cX6_tensionOf 24 = .ok (.freturn, 1) := by decide +kernel
theorem dX6_climbTo_0 : decode cX6_climbTo 0 = .ok (.iload_n 1, 1) := by decide +kernel
theorem dX6_climbTo_1 : decode cX6_climbTo 1 = .ok (.ifCond .lt 21, 3) := by decide +kernel
theorem dX6_climbTo_4 : decode cX6_climbTo 4 = .ok (.iload_n 1, 1) := by decide +kernel
theorem dX6_climbTo_5 : decode cX6_climbTo 5 = .ok (.aload_n 0, 1) := by decide +kernel
theorem dX6_climbTo_6 : decode cX6_climbTo 6 = .ok (.getfield 15, 3) := by decide +kernel
theorem dX6_climbTo_9 : decode cX6_climbTo 9 = .ok (.arraylength, 1) := by decide +kernel
theorem dX6_climbTo_10 : decode cX6_climbTo 10 = .ok (.if_icmp .ge 12, 3) := by decide +kernel
theorem dX6_climbTo_13 : decode cX6_climbTo 13 = .ok (.aload_n 0, 1) := by decide +kernel
theorem dX6_climbTo_14 : decode cX6_climbTo 14 = .ok (.getfield 15, 3) := by decide +kernel
theorem dX6_climbTo_17 : decode cX6_climbTo 17 = .ok (.iload_n 1, 1) := by decide +kernel
theorem dX6_climbTo_18 : decode cX6_climbTo 18 = .ok (.iaload, 1) := by decide +kernel
theorem dX6_climbTo_19 : decode cX6_climbTo 19 = .ok (.goto 4, 3) := by decide +kernel
theorem dX6_climbTo_22 : decode cX6_climbTo 22 = .ok (.iconst 0, 1) := by decide +kernel
theorem dX6_climbTo_23 : decode cX6_climbTo 23 = .ok (.ireturn, 1) := by decide +kernel
set_option maxRecDepth 20000 in
theorem ggX6_rises_X6_climbTo : GoodIn wsX6_rises wsX6_climbTo := goodIn_r _ [5, 6, 7, 8] (by decide +kernel) (by decide +kernel)
set_option maxRecDepth 20000 in
theorem gX6_rises_X6_climbTo : GoodIn wsX6_rises (wsV RX6 44 RX6 yX6_climbTo wsX6_climbTo) := goodIn_app (goodIn_of _ (by decide +kernel)) ggX6_rises_X6_climbTo
theorem dX6_rises_0 : decode cX6_rises 0 = .ok (.aload_n 0, 1) := by decide +kernel
theorem dX6_rises_1 : decode cX6_rises 1 = .ok (.iload_n 1, 1) := by decide +kernel
theorem dX6_rises_2 : decode cX6_rises 2 = .ok (.invokevirtual 44, 3) := by decide +kernel
theorem dX6_rises_5 : decode cX6_rises 5 = .ok (.iconst 1, 1) := by decide +kernel
theorem dX6_rises_6 : decode cX6_rises 6 = .ok (.if_icmp .le 7, 3) := by decide +kernel
theorem dX6_rises_9 : decode cX6_rises 9 = .ok (.iconst 1, 1) := by decide +kernel
theorem dX6_rises_10 : decode cX6_rises 10 = .ok (.goto 4, 3) := by decide +kernel
theorem dX6_rises_13 : decode cX6_rises 13 = .ok (.iconst 0, 1) := by decide +kernel
theorem dX6_rises_14 : decode cX6_rises 14 = .ok (.ireturn, 1) := by decide +kernel
set_option maxRecDepth 20000 in
theorem ggX6_longestClimb_X6_climbTo : GoodIn wsX6_longestClimb wsX6_climbTo := goodIn_r _ [9, 10, 11, 12] (by decide +kernel) (by decide +kernel)
set_option maxRecDepth 20000 in
theorem gX6_longestClimb_X6_climbTo : GoodIn wsX6_longestClimb (wsV RX6 44 RX6 yX6_climbTo wsX6_climbTo) := goodIn_app (goodIn_of _ (by decide +kernel)) ggX6_longestClimb_X6_climbTo
theorem dX6_longestClimb_0 : decode cX6_longestClimb 0 = .ok (.iconst 0, 1) := by decide +kernel
theorem dX6_longestClimb_1 : decode cX6_longestClimb 1 = .ok (.istore_n 1, 1) := by decide +kernel
theorem dX6_longestClimb_2 : decode cX6_longestClimb 2 = .ok (.iconst 0, 1) := by decide +kernel
theorem dX6_longestClimb_3 : decode cX6_longestClimb 3 = .ok (.istore_n 2, 1) := by decide +kernel
theorem dX6_longestClimb_4 : decode cX6_longestClimb 4 = .ok (.iload_n 2, 1) := by decide +kernel
theorem dX6_longestClimb_5 : decode cX6_longestClimb 5 = .ok (.bipush 16, 2) := by decide +kernel
theorem dX6_longestClimb_7 : decode cX6_longestClimb 7 = .ok (.if_icmp .ge 19, 3) := by decide +kernel
theorem dX6_longestClimb_10 : decode cX6_longestClimb 10 = .ok (.iload_n 1, 1) := by decide +kernel
theorem dX6_longestClimb_11 : decode cX6_longestClimb 11 = .ok (.aload_n 0, 1) := by decide +kernel
theorem dX6_longestClimb_12 : decode cX6_longestClimb 12 = .ok (.iload_n 2, 1) := by decide +kernel
theorem dX6_longestClimb_13 : decode cX6_longestClimb 13 = .ok (.invokevirtual 44, 3) := by decide +kernel
theorem dX6_longestClimb_16 : decode cX6_longestClimb 16 = .ok (.invokestatic 60, 3) := by decide +kernel
theorem dX6_longestClimb_19 : decode cX6_longestClimb 19 = .ok (.istore_n 1, 1) := by decide +kernel
theorem dX6_longestClimb_20 : decode cX6_longestClimb 20 = .ok (.iinc 2 1, 3) := by decide +kernel
theorem dX6_longestClimb_23 : decode cX6_longestClimb 23 = .ok (.goto (-19), 3) := by decide +kernel
theorem dX6_longestClimb_26 : decode cX6_longestClimb 26 = .ok (.iload_n 1, 1) := by decide +kernel
theorem dX6_longestClimb_27 : decode cX6_longestClimb 27 = .ok (.ireturn, 1) := by decide +kernel
set_option maxRecDepth 20000 in
theorem ggX6_span_X6_climbTo : GoodIn wsX6_span wsX6_climbTo := goodIn_r _ [5, 6, 13, 14] (by decide +kernel) (by decide +kernel)
set_option maxRecDepth 20000 in
theorem gX6_span_X6_climbTo : GoodIn wsX6_span (wsV RX6 44 RX6 yX6_climbTo wsX6_climbTo) := goodIn_app (goodIn_of _ (by decide +kernel)) ggX6_span_X6_climbTo
set_option maxRecDepth 20000 in
theorem ggX6_span_X6_tensionOf : GoodIn wsX6_span wsX6_tensionOf := goodIn_r _ [10, 11, 12, 13, 14] (by decide +kernel) (by decide +kernel)
set_option maxRecDepth 20000 in
theorem gX6_span_X6_tensionOf : GoodIn wsX6_span (wsV RX6 40 RX6 yX6_tensionOf wsX6_tensionOf) := goodIn_app (goodIn_of _ (by decide +kernel)) ggX6_span_X6_tensionOf
theorem dX6_span_0 : decode cX6_span 0 = .ok (.iconst 0, 1) := by decide +kernel
theorem dX6_span_1 : decode cX6_span 1 = .ok (.istore_n 1, 1) := by decide +kernel
theorem dX6_span_2 : decode cX6_span 2 = .ok (.fconst 0, 1) := by decide +kernel
theorem dX6_span_3 : decode cX6_span 3 = .ok (.fstore_n 2, 1) := by decide +kernel
theorem dX6_span_4 : decode cX6_span 4 = .ok (.fconst 0, 1) := by decide +kernel
theorem dX6_span_5 : decode cX6_span 5 = .ok (.fstore_n 3, 1) := by decide +kernel
theorem dX6_span_6 : decode cX6_span 6 = .ok (.iconst 0, 1) := by decide +kernel
theorem dX6_span_7 : decode cX6_span 7 = .ok (.istore 4, 2) := by decide +kernel
theorem dX6_span_9 : decode cX6_span 9 = .ok (.iload 4, 2) := by decide +kernel
theorem dX6_span_11 : decode cX6_span 11 = .ok (.bipush 16, 2) := by decide +kernel
theorem dX6_span_13 : decode cX6_span 13 = .ok (.if_icmp .ge 64, 3) := by decide +kernel
theorem dX6_span_16 : decode cX6_span 16 = .ok (.aload_n 0, 1) := by decide +kernel
theorem dX6_span_17 : decode cX6_span 17 = .ok (.iload 4, 2) := by decide +kernel
theorem dX6_span_19 : decode cX6_span 19 = .ok (.invokevirtual 44, 3) := by decide +kernel
theorem dX6_span_22 : decode cX6_span 22 = .ok (.ifCond .le 49, 3) := by decide +kernel
theorem dX6_span_25 : decode cX6_span 25 = .ok (.aload_n 0, 1) := by decide +kernel
theorem dX6_span_26 : decode cX6_span 26 = .ok (.iload 4, 2) := by decide +kernel
theorem dX6_span_28 : decode cX6_span 28 = .ok (.invokevirtual 40, 3) := by decide +kernel
theorem dX6_span_31 : decode cX6_span 31 = .ok (.fstore 5, 2) := by decide +kernel
theorem dX6_span_33 : decode cX6_span 33 = .ok (.iload_n 1, 1) := by decide +kernel
theorem dX6_span_34 : decode cX6_span 34 = .ok (.ifCond .eq 10, 3) := by decide +kernel
theorem dX6_span_37 : decode cX6_span 37 = .ok (.fload 5, 2) := by decide +kernel
theorem dX6_span_39 : decode cX6_span 39 = .ok (.fload_n 2, 1) := by decide +kernel
theorem dX6_span_40 : decode cX6_span 40 = .ok (.fcmp .g, 1) := by decide +kernel
theorem dX6_span_41 : decode cX6_span 41 = .ok (.ifCond .ge 8, 3) := by decide +kernel
theorem dX6_span_44 : decode cX6_span 44 = .ok (.fload 5, 2) := by decide +kernel
theorem dX6_span_46 : decode cX6_span 46 = .ok (.goto 4, 3) := by decide +kernel
theorem dX6_span_49 : decode cX6_span 49 = .ok (.fload_n 2, 1) := by decide +kernel
theorem dX6_span_50 : decode cX6_span 50 = .ok (.fstore_n 2, 1) := by decide +kernel
theorem dX6_span_51 : decode cX6_span 51 = .ok (.iload_n 1, 1) := by decide +kernel
theorem dX6_span_52 : decode cX6_span 52 = .ok (.ifCond .eq 10, 3) := by decide +kernel
theorem dX6_span_55 : decode cX6_span 55 = .ok (.fload 5, 2) := by decide +kernel
theorem dX6_span_57 : decode cX6_span 57 = .ok (.fload_n 3, 1) := by decide +kernel
theorem dX6_span_58 : decode cX6_span 58 = .ok (.fcmp .l, 1) := by decide +kernel
theorem dX6_span_59 : decode cX6_span 59 = .ok (.ifCond .le 8, 3) := by decide +kernel
theorem dX6_span_62 : decode cX6_span 62 = .ok (.fload 5, 2) := by decide +kernel
theorem dX6_span_64 : decode cX6_span 64 = .ok (.goto 4, 3) := by decide +kernel
theorem dX6_span_67 : decode cX6_span 67 = .ok (.fload_n 3, 1) := by decide +kernel
theorem dX6_span_68 : decode cX6_span 68 = .ok (.fstore_n 3, 1) := by decide +kernel
theorem dX6_span_69 : decode cX6_span 69 = .ok (.iconst 1, 1) := by decide +kernel
theorem dX6_span_70 : decode cX6_span 70 = .ok (.istore_n 1, 1) := by decide +kernel
theorem dX6_span_71 : decode cX6_span 71 = .ok (.iinc 4 1, 3) := by decide +kernel
theorem dX6_span_74 : decode cX6_span 74 = .ok (.goto (-65), 3) := by decide +kernel
theorem dX6_span_77 : decode cX6_span 77 = .ok (.fload_n 3, 1) := by decide +kernel
theorem dX6_span_78 : decode cX6_span 78 = .ok (.fload_n 2, 1) := by decide +kernel
theorem dX6_span_79 : decode cX6_span 79 = .ok (.fsub, 1) := by decide +kernel
theorem dX6_span_80 : decode cX6_span 80 = .ok (.freturn, 1) := by decide +kernel
theorem dX7_init_0 : decode cX7_init 0 = .ok (.aload_n 0, 1) := by decide +kernel
theorem dX7_init_1 : decode cX7_init 1 = .ok (.invokespecial 3, 3) := by decide +kernel
theorem dX7_init_4 : decode cX7_init 4 = .ok (.aload_n 0, 1) := by decide +kernel
theorem dX7_init_5 : decode cX7_init 5 = .ok (.bipush 96, 2) := by decide +kernel
theorem dX7_init_7 : decode cX7_init 7 = .ok (.newarray .int, 2) := by decide +kernel
theorem dX7_init_9 : decode cX7_init 9 = .ok (.putfield 9, 3) := by decide +kernel
theorem dX7_init_12 : decode cX7_init 12 = .ok (.iconst 0, 1) := by decide +kernel
theorem dX7_init_13 : decode cX7_init 13 = .ok (.istore_n 1, 1) := by decide +kernel
theorem dX7_init_14 : decode cX7_init 14 = .ok (.iload_n 1, 1) := by decide +kernel
theorem dX7_init_15 : decode cX7_init 15 = .ok (.aload_n 0, 1) := by decide +kernel
theorem dX7_init_16 : decode cX7_init 16 = .ok (.getfield 9, 3) := by decide +kernel
theorem dX7_init_19 : decode cX7_init 19 = .ok (.arraylength, 1) := by decide +kernel
theorem dX7_init_20 : decode cX7_init 20 = .ok (.if_icmp .ge 17, 3) := by decide +kernel
theorem dX7_init_23 : decode cX7_init 23 = .ok (.aload_n 0, 1) := by decide +kernel
theorem dX7_init_24 : decode cX7_init 24 = .ok (.getfield 9, 3) := by decide +kernel
theorem dX7_init_27 : decode cX7_init 27 = .ok (.iload_n 1, 1) := by decide +kernel
theorem dX7_init_28 : decode cX7_init 28 = .ok (.bipush (-5), 2) := by decide +kernel
theorem dX7_init_30 : decode cX7_init 30 = .ok (.iastore, 1) := by decide +kernel
theorem dX7_init_31 : decode cX7_init 31 = .ok (.iinc 1 1, 3) := by decide +kernel
theorem dX7_init_34 : decode cX7_init 34 = .ok (.goto (-20), 3) := by decide +kernel
theorem dX7_init_37 : decode cX7_init 37 = .ok (.return_, 1) := by decide +kernel
theorem dX7_copyFrom_0 : decode cX7_copyFrom 0 = .ok (.aload_n 1, 1) := by decide +kernel
theorem dX7_copyFrom_1 : decode cX7_copyFrom 1 = .ok (.getfield 9, 3) := by decide +kernel
theorem dX7_copyFrom_4 : decode cX7_copyFrom 4 = .ok (.iconst 0, 1) := by decide +kernel
theorem dX7_copyFrom_5 : decode cX7_copyFrom 5 = .ok (.aload_n 0, 1) := by decide +kernel
theorem dX7_copyFrom_6 : decode cX7_copyFrom 6 = .ok (.getfield 9, 3) := by decide +kernel
theorem dX7_copyFrom_9 : decode cX7_copyFrom 9 = .ok (.iconst 0, 1) := by decide +kernel
theorem dX7_copyFrom_10 : decode cX7_copyFrom 10 = .ok (.aload_n 0, 1) := by decide +kernel
theorem dX7_copyFrom_11 : decode cX7_copyFrom 11 = .ok (.getfield 9, 3) := by decide +kernel
theorem dX7_copyFrom_14 : decode cX7_copyFrom 14 = .ok (.arraylength, 1) := by decide +kernel
theorem dX7_copyFrom_15 : decode cX7_copyFrom 15 = .ok (.invokestatic 15, 3) := by decide +kernel
theorem dX7_copyFrom_18 : decode cX7_copyFrom 18 = .ok (.return_, 1) := by decide +kernel
theorem dX7_cardAt_0 : decode cX7_cardAt 0 = .ok (.iload_n 1, 1) := by decide +kernel
theorem dX7_cardAt_1 : decode cX7_cardAt 1 = .ok (.ifCond .lt 21, 3) := by decide +kernel
theorem dX7_cardAt_4 : decode cX7_cardAt 4 = .ok (.iload_n 1, 1) := by decide +kernel
theorem dX7_cardAt_5 : decode cX7_cardAt 5 = .ok (.aload_n 0, 1) := by decide +kernel
theorem dX7_cardAt_6 : decode cX7_cardAt 6 = .ok (.getfield 9, 3) := by decide +kernel
theorem dX7_cardAt_9 : decode cX7_cardAt 9 = .ok (.arraylength, 1) := by decide +kernel
theorem dX7_cardAt_10 : decode cX7_cardAt 10 = .ok (.if_icmp .ge 12, 3) := by decide +kernel
theorem dX7_cardAt_13 : decode cX7_cardAt 13 = .ok (.aload_n 0, 1) := by decide +kernel
theorem dX7_cardAt_14 : decode cX7_cardAt 14 = .ok (.getfield 9, 3) := by decide +kernel
theorem dX7_cardAt_17 : decode cX7_cardAt 17 = .ok (.iload_n 1, 1) := by decide +kernel
theorem dX7_cardAt_18 : decode cX7_cardAt 18 = .ok (.iaload, 1) := by decide +kernel
theorem dX7_cardAt_19 : decode cX7_cardAt 19 = .ok (.goto 5, 3) := by decide +kernel
theorem dX7_cardAt_22 : decode cX7_cardAt 22 = .ok (.bipush (-5), 2) := by decide +kernel
theorem dX7_cardAt_24 : decode cX7_cardAt 24 = .ok (.ireturn, 1) := by decide +kernel
theorem dX7_put_0 : decode cX7_put 0 = .ok (.iload_n 1, 1) := by decide +kernel
theorem dX7_put_1 : decode cX7_put 1 = .ok (.ifCond .lt 19, 3) := by decide +kernel
theorem dX7_put_4 : decode cX7_put 4 = .ok (.iload_n 1, 1) := by decide +kernel
theorem dX7_put_5 : decode cX7_put 5 = .ok (.aload_n 0, 1) := by decide +kernel
theorem dX7_put_6 : decode cX7_put 6 = .ok (.getfield 9, 3) := by decide +kernel
theorem dX7_put_9 : decode cX7_put 9 = .ok (.arraylength, 1) := by decide +kernel
theorem dX7_put_10 : decode cX7_put 10 = .ok (.if_icmp .ge 10, 3) := by decide +kernel
theorem dX7_put_13 : decode cX7_put 13 = .ok (.aload_n 0, 1) := by decide +kernel
theorem dX7_put_14 : decode cX7_put 14 = .ok (.getfield 9, 3) := by decide +kernel
theorem dX7_put_17 : decode cX7_put 17 = .ok (.iload_n 1, 1) := by decide +kernel
theorem dX7_put_18 : decode cX7_put 18 = .ok (.iload_n 2, 1) := by decide +kernel
theorem dX7_put_19 : decode cX7_put 19 = .ok (.iastore, 1) := by decide +kernel
theorem dX7_put_20 : decode cX7_put 20 = .ok (.return_, 1) := by decide +kernel
set_option maxRecDepth 20000 in
theorem ggX7_cardIn_X8_isScene : GoodIn wsX7_cardIn wsX8_isScene := goodIn_r _ [3] (by decide +kernel) (by decide +kernel)
set_option maxRecDepth 20000 in
theorem gX7_cardIn_X8_isScene_n21 : GoodIn wsX7_cardIn (wsX8_isScene) := ggX7_cardIn_X8_isScene
set_option maxRecDepth 20000 in
theorem ggX7_cardIn_X8_slot : GoodIn wsX7_cardIn wsX8_slot := goodIn_r _ [5] (by decide +kernel) (by decide +kernel)
set_option maxRecDepth 20000 in
theorem gX7_cardIn_X8_slot_n25 : GoodIn wsX7_cardIn (wsX8_slot) := ggX7_cardIn_X8_slot
set_option maxRecDepth 20000 in
theorem ggX7_cardIn_X7_cardAt : GoodIn wsX7_cardIn wsX7_cardAt := goodIn_r _ [10, 11, 12] (by decide +kernel) (by decide +kernel)
set_option maxRecDepth 20000 in
theorem gX7_cardIn_X7_cardAt : GoodIn wsX7_cardIn (wsV RX7 29 RX7 yX7_cardAt wsX7_cardAt) := goodIn_app (goodIn_of _ (by decide +kernel)) ggX7_cardIn_X7_cardAt
theorem dX7_cardIn_0 : decode cX7_cardIn 0 = .ok (.iload_n 1, 1) := by decide +kernel
theorem dX7_cardIn_1 : decode cX7_cardIn 1 = .ok (.invokestatic 21, 3) := by decide +kernel
theorem dX7_cardIn_4 : decode cX7_cardIn 4 = .ok (.ifCond .eq 25, 3) := by decide +kernel
theorem dX7_cardIn_7 : decode cX7_cardIn 7 = .ok (.iload_n 2, 1) := by decide +kernel
theorem dX7_cardIn_8 : decode cX7_cardIn 8 = .ok (.ifCond .lt 21, 3) := by decide +kernel
theorem dX7_cardIn_11 : decode cX7_cardIn 11 = .ok (.iload_n 2, 1) := by decide +kernel
theorem dX7_cardIn_12 : decode cX7_cardIn 12 = .ok (.bipush 6, 2) := by decide +kernel
theorem dX7_cardIn_14 : decode cX7_cardIn 14 = .ok (.if_icmp .ge 15, 3) := by decide +kernel
theorem dX7_cardIn_17 : decode cX7_cardIn 17 = .ok (.aload_n 0, 1) := by decide +kernel
theorem dX7_cardIn_18 : decode cX7_cardIn 18 = .ok (.iload_n 1, 1) := by decide +kernel
theorem dX7_cardIn_19 : decode cX7_cardIn 19 = .ok (.iload_n 2, 1) := by decide +kernel
theorem dX7_cardIn_20 : decode cX7_cardIn 20 = .ok (.invokestatic 25, 3) := by decide +kernel
theorem dX7_cardIn_23 : decode cX7_cardIn 23 = .ok (.invokevirtual 29, 3) := by decide +kernel
theorem dX7_cardIn_26 : decode cX7_cardIn 26 = .ok (.goto 5, 3) := by decide +kernel
theorem dX7_cardIn_29 : decode cX7_cardIn 29 = .ok (.bipush (-5), 2) := by decide +kernel
theorem dX7_cardIn_31 : decode cX7_cardIn 31 = .ok (.ireturn, 1) := by decide +kernel
set_option maxRecDepth 20000 in
theorem ggX7_sizeOf_X7_cardIn : GoodIn wsX7_sizeOf wsX7_cardIn := goodIn_r _ [5, 6, 7, 8, 9, 10, 11, 12, 13, 4, 14, 15, 16] (by decide +kernel) (by decide +kernel)
set_option maxRecDepth 20000 in
theorem gX7_sizeOf_X7_cardIn : GoodIn wsX7_sizeOf (wsV RX7 33 RX7 yX7_cardIn wsX7_cardIn) := goodIn_app (goodIn_of _ (by decide +kernel)) ggX7_sizeOf_X7_cardIn
theorem dX7_sizeOf_0 : decode cX7_sizeOf 0 = .ok (.iconst 0, 1) := by decide +kernel
theorem dX7_sizeOf_1 : decode cX7_sizeOf 1 = .ok (.istore_n 2, 1) := by decide +kernel
theorem dX7_sizeOf_2 : decode cX7_sizeOf 2 = .ok (.iconst 0, 1) := by decide +kernel
theorem dX7_sizeOf_3 : decode cX7_sizeOf 3 = .ok (.istore_n 3, 1) := by decide +kernel
theorem dX7_sizeOf_4 : decode cX7_sizeOf 4 = .ok (.iload_n 3, 1) := by decide +kernel
theorem dX7_sizeOf_5 : decode cX7_sizeOf 5 = .ok (.bipush 6, 2) := by decide +kernel
theorem dX7_sizeOf_7 : decode cX7_sizeOf 7 = .ok (.if_icmp .ge 23, 3) := by decide +kernel
theorem dX7_sizeOf_10 : decode cX7_sizeOf 10 = .ok (.aload_n 0, 1) := by decide +kernel
theorem dX7_sizeOf_11 : decode cX7_sizeOf 11 = .ok (.iload_n 1, 1) := by decide +kernel
theorem dX7_sizeOf_12 : decode cX7_sizeOf 12 = .ok (.iload_n 3, 1) := by decide +kernel
theorem dX7_sizeOf_13 : decode cX7_sizeOf 13 = .ok (.invokevirtual 33, 3) := by decide +kernel
theorem dX7_sizeOf_16 : decode cX7_sizeOf 16 = .ok (.bipush (-5), 2) := by decide +kernel
theorem dX7_sizeOf_18 : decode cX7_sizeOf 18 = .ok (.if_icmp .eq 6, 3) := by decide +kernel
theorem dX7_sizeOf_21 : decode cX7_sizeOf 21 = .ok (.iinc 2 1, 3) := by decide +kernel
theorem dX7_sizeOf_24 : decode cX7_sizeOf 24 = .ok (.iinc 3 1, 3) := by decide +kernel
theorem dX7_sizeOf_27 : decode cX7_sizeOf 27 = .ok (.goto (-23), 3) := by decide +kernel
theorem dX7_sizeOf_30 : decode cX7_sizeOf 30 = .ok (.iload_n 2, 1) := by decide +kernel
theorem dX7_sizeOf_31 : decode cX7_sizeOf 31 = .ok (.ireturn, 1) := by decide +kernel
set_option maxRecDepth 20000 in
theorem ggX7_cardsAheadOf_X7_cardAt : GoodIn wsX7_cardsAheadOf wsX7_cardAt := goodIn_r _ [6, 1, 7] (by decide +kernel) (by decide +kernel)
set_option maxRecDepth 20000 in
theorem gX7_cardsAheadOf_X7_cardAt : GoodIn wsX7_cardsAheadOf (wsV RX7 29 RX7 yX7_cardAt wsX7_cardAt) := goodIn_app (goodIn_of _ (by decide +kernel)) ggX7_cardsAheadOf_X7_cardAt
theorem dX7_cardsAheadOf_0 : decode cX7_cardsAheadOf 0 = .ok (.iconst 0, 1) := by decide +kernel
theorem dX7_cardsAheadOf_1 : decode cX7_cardsAheadOf 1 = .ok (.istore_n 2, 1) := by decide +kernel
theorem dX7_cardsAheadOf_2 : decode cX7_cardsAheadOf 2 = .ok (.iconst 0, 1) := by decide +kernel
theorem dX7_cardsAheadOf_3 : decode cX7_cardsAheadOf 3 = .ok (.istore_n 3, 1) := by decide +kernel
theorem dX7_cardsAheadOf_4 : decode cX7_cardsAheadOf 4 = .ok (.iload_n 3, 1) := by decide +kernel
theorem dX7_cardsAheadOf_5 : decode cX7_cardsAheadOf 5 = .ok (.iload_n 1, 1) := by decide +kernel
theorem dX7_cardsAheadOf_6 : decode cX7_cardsAheadOf 6 = .ok (.if_icmp .ge 31, 3) := by decide +kernel
theorem dX7_cardsAheadOf_9 : decode cX7_cardsAheadOf 9 = .ok (.iload_n 3, 1) := by decide +kernel
theorem dX7_cardsAheadOf_10 : decode cX7_cardsAheadOf 10 = .ok (.aload_n 0, 1) := by decide +kernel
theorem dX7_cardsAheadOf_11 : decode cX7_cardsAheadOf 11 = .ok (.getfield 9, 3) := by decide +kernel
theorem dX7_cardsAheadOf_14 : decode cX7_cardsAheadOf 14 = .ok (.arraylength, 1) := by decide +kernel
theorem dX7_cardsAheadOf_15 : decode cX7_cardsAheadOf 15 = .ok (.if_icmp .ge 22, 3) := by decide +kernel
theorem dX7_cardsAheadOf_18 : decode cX7_cardsAheadOf 18 = .ok (.aload_n 0, 1) := by decide +kernel
theorem dX7_cardsAheadOf_19 : decode cX7_cardsAheadOf 19 = .ok (.iload_n 3, 1) := by decide +kernel
theorem dX7_cardsAheadOf_20 : decode cX7_cardsAheadOf 20 = .ok (.invokevirtual 29, 3) := by decide +kernel
theorem dX7_cardsAheadOf_23 : decode cX7_cardsAheadOf 23 = .ok (.bipush (-5), 2) := by decide +kernel
theorem dX7_cardsAheadOf_25 : decode cX7_cardsAheadOf 25 = .ok (.if_icmp .eq 6, 3) := by decide +kernel
theorem dX7_cardsAheadOf_28 : decode cX7_cardsAheadOf 28 = .ok (.iinc 2 1, 3) := by decide +kernel
theorem dX7_cardsAheadOf_31 : decode cX7_cardsAheadOf 31 = .ok (.iinc 3 1, 3) := by decide +kernel
theorem dX7_cardsAheadOf_34 : decode cX7_cardsAheadOf 34 = .ok (.goto (-30), 3) := by decide +kernel
theorem dX7_cardsAheadOf_37 : decode cX7_cardsAheadOf 37 = .ok (.iload_n 2, 1) := by decide +kernel
theorem dX7_cardsAheadOf_38 : decode cX7_cardsAheadOf 38 = .ok (.ireturn, 1) := by decide +kernel
set_option maxRecDepth 20000 in
theorem ggX7_cards_X7_cardsAheadOf : GoodIn wsX7_cards wsX7_cardsAheadOf := goodIn_r _ [6, 1, 7, 8, 9, 5, 10, 11] (by decide +kernel) (by decide +kernel)
set_option maxRecDepth 20000 in
theorem gX7_cards_X7_cardsAheadOf : GoodIn wsX7_cards (wsV RX7 36 RX7 yX7_cardsAheadOf wsX7_cardsAheadOf) := goodIn_app (goodIn_of _ (by decide +kernel)) ggX7_cards_X7_cardsAheadOf
theorem dX7_cards_0 : decode cX7_cards 0 = .ok (.aload_n 0, 1) := by decide +kernel
theorem dX7_cards_1 : decode cX7_cards 1 = .ok (.aload_n 0, 1) := by decide +kernel
theorem dX7_cards_2 : decode cX7_cards 2 = .ok (.getfield 9, 3) := by decide +kernel
theorem dX7_cards_5 : decode cX7_cards 5 = .ok (.arraylength, 1) := by decide +kernel
theorem dX7_cards_6 : decode cX7_cards 6 = .ok (.invokevirtual 36, 3) := by decide +kernel
theorem dX7_cards_9 : decode cX7_cards 9 = .ok (.ireturn, 1) := by decide +kernel
set_option maxRecDepth 20000 in
theorem ggX7_slotOf_X7_cardAt : GoodIn wsX7_slotOf wsX7_cardAt := goodIn_r _ [6, 1, 7] (by decide +kernel) (by decide +kernel)
set_option maxRecDepth 20000 in
theorem gX7_slotOf_X7_cardAt : GoodIn wsX7_slotOf (wsV RX7 29 RX7 yX7_cardAt wsX7_cardAt) := goodIn_app (goodIn_of _ (by decide +kernel)) ggX7_slotOf_X7_cardAt
theorem dX7_slotOf_0 : decode cX7_slotOf 0 = .ok (.iconst 0, 1) := by decide +kernel
theorem dX7_slotOf_1 : decode cX7_slotOf 1 = .ok (.istore_n 2, 1) := by decide +kernel
theorem dX7_slotOf_2 : decode cX7_slotOf 2 = .ok (.iload_n 2, 1) := by decide +kernel
theorem dX7_slotOf_3 : decode cX7_slotOf 3 = .ok (.aload_n 0, 1) := by decide +kernel
theorem dX7_slotOf_4 : decode cX7_slotOf 4 = .ok (.getfield 9, 3) := by decide +kernel
theorem dX7_slotOf_7 : decode cX7_slotOf 7 = .ok (.arraylength, 1) := by decide +kernel
theorem dX7_slotOf_8 : decode cX7_slotOf 8 = .ok (.if_icmp .ge 20, 3) := by decide +kernel
theorem dX7_slotOf_11 : decode cX7_slotOf 11 = .ok (.aload_n 0, 1) := by decide +kernel
theorem dX7_slotOf_12 : decode cX7_slotOf 12 = .ok (.iload_n 2, 1) := by decide +kernel
theorem dX7_slotOf_13 : decode cX7_slotOf 13 = .ok (.invokevirtual 29, 3) := by decide +kernel
theorem dX7_slotOf_16 : decode cX7_slotOf 16 = .ok (.iload_n 1, 1) := by decide +kernel
theorem dX7_slotOf_17 : decode cX7_slotOf 17 = .ok (.if_icmp .ne 5, 3) := by decide +kernel
theorem dX7_slotOf_20 : decode cX7_slotOf 20 = .ok (.iload_n 2, 1) := by decide +kernel
theorem dX7_slotOf_21 : decode cX7_slotOf 21 = .ok (.ireturn, 1) := by decide +kernel
theorem dX7_slotOf_22 : decode cX7_slotOf 22 = .ok (.iinc 2 1, 3) := by decide +kernel
theorem dX7_slotOf_25 : decode cX7_slotOf 25 = .ok (.goto (-23), 3) := by decide +kernel
theorem dX7_slotOf_28 : decode cX7_slotOf 28 = .ok (.bipush (-5), 2) := by decide +kernel
theorem dX7_slotOf_30 : decode cX7_slotOf 30 = .ok (.ireturn, 1) := by decide +kernel
set_option maxRecDepth 20000 in
theorem ggX7_isIn_X7_slotOf : GoodIn wsX7_isIn wsX7_slotOf := goodIn_r _ [5, 6, 7, 8, 9, 4, 10, 11] (by decide +kernel) (by decide +kernel)
set_option maxRecDepth 20000 in
theorem gX7_isIn_X7_slotOf : GoodIn wsX7_isIn (wsV RX7 39 RX7 yX7_slotOf wsX7_slotOf) := goodIn_app (goodIn_of _ (by decide +kernel)) ggX7_isIn_X7_slotOf
theorem dX7_isIn_0 : decode cX7_isIn 0 = .ok (.aload_n 0, 1) := by decide +kernel
theorem dX7_isIn_1 : decode cX7_isIn 1 = .ok (.iload_n 1, 1) := by decide +kernel
theorem dX7_isIn_2 : decode cX7_isIn 2 = .ok (.invokevirtual 39, 3) := by decide +kernel
theorem dX7_isIn_5 : decode cX7_isIn 5 = .ok (.istore_n 3, 1) := by decide +kernel
theorem dX7_isIn_6 : decode cX7_isIn 6 = .ok (.iload_n 3, 1) := by decide +kernel
theorem dX7_isIn_7 : decode cX7_isIn 7 = .ok (.bipush (-5), 2) := by decide +kernel
theorem dX7_isIn_9 : decode cX7_isIn 9 = .ok (.if_icmp .eq 15, 3) := by decide +kernel
theorem dX7_isIn_12 : decode cX7_isIn 12 = .ok (.iload_n 3, 1) := by decide +kernel
theorem dX7_isIn_13 : decode cX7_isIn 13 = .ok (.bipush 6, 2) := by decide +kernel
theorem dX7_isIn_15 : decode cX7_isIn 15 = .ok (.idiv, 1) := by decide +kernel
theorem dX7_isIn_16 : decode cX7_isIn 16 = .ok (.iload_n 2, 1) := by decide +kernel
theorem dX7_isIn_17 : decode cX7_isIn 17 = .ok (.if_icmp .ne 7, 3) := by decide +kernel
theorem dX7_isIn_20 : decode cX7_isIn 20 = .ok (.iconst 1, 1) := by decide +kernel
theorem dX7_isIn_21 : decode cX7_isIn 21 = .ok (.goto 4, 3) := by decide +kernel
theorem dX7_isIn_24 : decode cX7_isIn 24 = .ok (.iconst 0, 1) := by decide +kernel
theorem dX7_isIn_25 : decode cX7_isIn 25 = .ok (.ireturn, 1) := by decide +kernel
set_option maxRecDepth 20000 in
theorem ggX7_takeOff_X7_slotOf : GoodIn wsX7_takeOff wsX7_slotOf := goodIn_r _ [5, 6, 7, 8, 9, 4, 10, 18] (by decide +kernel) (by decide +kernel)
set_option maxRecDepth 20000 in
theorem gX7_takeOff_X7_slotOf : GoodIn wsX7_takeOff (wsV RX7 39 RX7 yX7_slotOf wsX7_slotOf) := goodIn_app (goodIn_of _ (by decide +kernel)) ggX7_takeOff_X7_slotOf
set_option maxRecDepth 20000 in
theorem ggX7_takeOff_X8_slot : GoodIn wsX7_takeOff wsX8_slot := goodIn_r _ [13] (by decide +kernel) (by decide +kernel)
set_option maxRecDepth 20000 in
theorem gX7_takeOff_X8_slot_n25 : GoodIn wsX7_takeOff (wsX8_slot) := ggX7_takeOff_X8_slot
set_option maxRecDepth 20000 in
theorem ggX7_takeOff_X7_cardAt : GoodIn wsX7_takeOff wsX7_cardAt := goodIn_r _ [10, 6, 18] (by decide +kernel) (by decide +kernel)
set_option maxRecDepth 20000 in
theorem gX7_takeOff_X7_cardAt : GoodIn wsX7_takeOff (wsV RX7 29 RX7 yX7_cardAt wsX7_cardAt) := goodIn_app (goodIn_of _ (by decide +kernel)) ggX7_takeOff_X7_cardAt
set_option maxRecDepth 20000 in
theorem ggX7_takeOff_X7_put : GoodIn wsX7_takeOff wsX7_put := goodIn_r _ [17, 6, 18] (by decide +kernel) (by decide +kernel)
set_option maxRecDepth 20000 in
theorem gX7_takeOff_X7_put : GoodIn wsX7_takeOff (wsV RX7 42 RX7 yX7_put wsX7_put) := goodIn_app (goodIn_of _ (by decide +kernel)) ggX7_takeOff_X7_put
