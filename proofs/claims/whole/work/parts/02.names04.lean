theorem dX5_standsBefore_25 : decode cX5_standsBefore 25 = .ok (.ifCond .ne 28, 3) := by decide +kernel
theorem dX5_standsBefore_28 : decode cX5_standsBefore 28 = .ok (.aload_n 0, 1) := by decide +kernel
theorem dX5_standsBefore_29 : decode cX5_standsBefore 29 = .ok (.aload_n 0, 1) := by decide +kernel
theorem dX5_standsBefore_30 : decode cX5_standsBefore 30 = .ok (.getfield 15, 3) := by decide +kernel
theorem dX5_standsBefore_33 : decode cX5_standsBefore 33 = .ok (.iload_n 1, 1) := by decide +kernel
theorem dX5_standsBefore_34 : decode cX5_standsBefore 34 = .ok (.invokevirtual 57, 3) := by decide +kernel
theorem dX5_standsBefore_37 : decode cX5_standsBefore 37 = .ok (.aload_n 0, 1) := by decide +kernel
theorem dX5_standsBefore_38 : decode cX5_standsBefore 38 = .ok (.aload_n 0, 1) := by decide +kernel
theorem dX5_standsBefore_39 : decode cX5_standsBefore 39 = .ok (.getfield 15, 3) := by decide +kernel
theorem dX5_standsBefore_42 : decode cX5_standsBefore 42 = .ok (.iload_n 2, 1) := by decide +kernel
theorem dX5_standsBefore_43 : decode cX5_standsBefore 43 = .ok (.invokevirtual 57, 3) := by decide +kernel
theorem dX5_standsBefore_46 : decode cX5_standsBefore 46 = .ok (.if_icmp .ge 7, 3) := by decide +kernel
theorem dX5_standsBefore_49 : decode cX5_standsBefore 49 = .ok (.iconst 1, 1) := by decide +kernel
theorem dX5_standsBefore_50 : decode cX5_standsBefore 50 = .ok (.goto 4, 3) := by decide +kernel
theorem dX5_standsBefore_53 : decode cX5_standsBefore 53 = .ok (.iconst 0, 1) := by decide +kernel
theorem dX5_standsBefore_54 : decode cX5_standsBefore 54 = .ok (.ireturn, 1) := by decide +kernel
set_option maxRecDepth 20000 in
theorem ggX5_moved_X5_valueAt : GoodIn wsX5_moved wsX5_valueAt := goodIn_r _ [7, 1, 8, 9, 10, 11, 12, 13, 14] (by decide +kernel) (by decide +kernel)
set_option maxRecDepth 20000 in
theorem gX5_moved_X5_valueAt : GoodIn wsX5_moved (wsV RX5 57 RX5 yX5_valueAt wsX5_valueAt) := goodIn_app (goodIn_of _ (by decide +kernel)) ggX5_moved_X5_valueAt
theorem dX5_moved_0 : decode cX5_moved 0 = .ok (.iconst 0, 1) := by decide +kernel
theorem dX5_moved_1 : decode cX5_moved 1 = .ok (.istore_n 1, 1) := by decide +kernel
theorem dX5_moved_2 : decode cX5_moved 2 = .ok (.iconst 0, 1) := by decide +kernel
theorem dX5_moved_3 : decode cX5_moved 3 = .ok (.istore_n 2, 1) := by decide +kernel
theorem dX5_moved_4 : decode cX5_moved 4 = .ok (.iload_n 2, 1) := by decide +kernel
theorem dX5_moved_5 : decode cX5_moved 5 = .ok (.aload_n 0, 1) := by decide +kernel
theorem dX5_moved_6 : decode cX5_moved 6 = .ok (.getfield 30, 3) := by decide +kernel
theorem dX5_moved_9 : decode cX5_moved 9 = .ok (.if_icmp .ge 25, 3) := by decide +kernel
theorem dX5_moved_12 : decode cX5_moved 12 = .ok (.aload_n 0, 1) := by decide +kernel
theorem dX5_moved_13 : decode cX5_moved 13 = .ok (.aload_n 0, 1) := by decide +kernel
theorem dX5_moved_14 : decode cX5_moved 14 = .ok (.getfield 24, 3) := by decide +kernel
theorem dX5_moved_17 : decode cX5_moved 17 = .ok (.iload_n 2, 1) := by decide +kernel
theorem dX5_moved_18 : decode cX5_moved 18 = .ok (.invokevirtual 57, 3) := by decide +kernel
theorem dX5_moved_21 : decode cX5_moved 21 = .ok (.iload_n 2, 1) := by decide +kernel
theorem dX5_moved_22 : decode cX5_moved 22 = .ok (.if_icmp .eq 6, 3) := by decide +kernel
theorem dX5_moved_25 : decode cX5_moved 25 = .ok (.iinc 1 1, 3) := by decide +kernel
theorem dX5_moved_28 : decode cX5_moved 28 = .ok (.iinc 2 1, 3) := by decide +kernel
theorem dX5_moved_31 : decode cX5_moved 31 = .ok (.goto (-27), 3) := by decide +kernel
theorem dX5_moved_34 : decode cX5_moved 34 = .ok (.iload_n 1, 1) := by decide +kernel
theorem dX5_moved_35 : decode cX5_moved 35 = .ok (.ireturn, 1) := by decide +kernel
set_option maxRecDepth 20000 in
theorem ggX5_putOn_X5_valueAt : GoodIn wsX5_putOn wsX5_valueAt := goodIn_r _ [9, 1, 16, 17, 18, 19, 20, 21, 22] (by decide +kernel) (by decide +kernel)
set_option maxRecDepth 20000 in
theorem gX5_putOn_X5_valueAt : GoodIn wsX5_putOn (wsV RX5 57 RX5 yX5_valueAt wsX5_valueAt) := goodIn_app (goodIn_of _ (by decide +kernel)) ggX5_putOn_X5_valueAt
set_option maxRecDepth 20000 in
theorem ggX5_putOn_X7_put : GoodIn wsX5_putOn wsX7_put := goodIn_r _ [14, 15, 23] (by decide +kernel) (by decide +kernel)
set_option maxRecDepth 20000 in
theorem gX5_putOn_X7_put : GoodIn wsX5_putOn (wsV RX5 70 RX7 yX7_put wsX7_put) := goodIn_app (goodIn_of _ (by decide +kernel)) ggX5_putOn_X7_put
theorem dX5_putOn_0 : decode cX5_putOn 0 = .ok (.iconst 0, 1) := by decide +kernel
theorem dX5_putOn_1 : decode cX5_putOn 1 = .ok (.istore_n 2, 1) := by decide +kernel
theorem dX5_putOn_2 : decode cX5_putOn 2 = .ok (.iload_n 2, 1) := by decide +kernel
theorem dX5_putOn_3 : decode cX5_putOn 3 = .ok (.aload_n 0, 1) := by decide +kernel
theorem dX5_putOn_4 : decode cX5_putOn 4 = .ok (.getfield 30, 3) := by decide +kernel
theorem dX5_putOn_7 : decode cX5_putOn 7 = .ok (.if_icmp .ge 39, 3) := by decide +kernel
theorem dX5_putOn_10 : decode cX5_putOn 10 = .ok (.aload_n 1, 1) := by decide +kernel
theorem dX5_putOn_11 : decode cX5_putOn 11 = .ok (.aload_n 0, 1) := by decide +kernel
theorem dX5_putOn_12 : decode cX5_putOn 12 = .ok (.aload_n 0, 1) := by decide +kernel
theorem dX5_putOn_13 : decode cX5_putOn 13 = .ok (.getfield 21, 3) := by decide +kernel
theorem dX5_putOn_16 : decode cX5_putOn 16 = .ok (.iload_n 2, 1) := by decide +kernel
theorem dX5_putOn_17 : decode cX5_putOn 17 = .ok (.invokevirtual 57, 3) := by decide +kernel
theorem dX5_putOn_20 : decode cX5_putOn 20 = .ok (.aload_n 0, 1) := by decide +kernel
theorem dX5_putOn_21 : decode cX5_putOn 21 = .ok (.aload_n 0, 1) := by decide +kernel
theorem dX5_putOn_22 : decode cX5_putOn 22 = .ok (.getfield 15, 3) := by decide +kernel
theorem dX5_putOn_25 : decode cX5_putOn 25 = .ok (.aload_n 0, 1) := by decide +kernel
theorem dX5_putOn_26 : decode cX5_putOn 26 = .ok (.aload_n 0, 1) := by decide +kernel
theorem dX5_putOn_27 : decode cX5_putOn 27 = .ok (.getfield 24, 3) := by decide +kernel
theorem dX5_putOn_30 : decode cX5_putOn 30 = .ok (.iload_n 2, 1) := by decide +kernel
theorem dX5_putOn_31 : decode cX5_putOn 31 = .ok (.invokevirtual 57, 3) := by decide +kernel
theorem dX5_putOn_34 : decode cX5_putOn 34 = .ok (.invokevirtual 57, 3) := by decide +kernel
theorem dX5_putOn_37 : decode cX5_putOn 37 = .ok (.invokevirtual 70, 3) := by decide +kernel
theorem dX5_putOn_40 : decode cX5_putOn 40 = .ok (.iinc 2 1, 3) := by decide +kernel
theorem dX5_putOn_43 : decode cX5_putOn 43 = .ok (.goto (-41), 3) := by decide +kernel
theorem dX5_putOn_46 : decode cX5_putOn 46 = .ok (.return_, 1) := by decide +kernel
theorem dX6_init_0 : decode cX6_init 0 = .ok (.aload_n 0, 1) := by decide +kernel
theorem dX6_init_1 : decode cX6_init 1 = .ok (.invokespecial 3, 3) := by decide +kernel
theorem dX6_init_4 : decode cX6_init 4 = .ok (.aload_n 0, 1) := by decide +kernel
theorem dX6_init_5 : decode cX6_init 5 = .ok (.bipush 16, 2) := by decide +kernel
theorem dX6_init_7 : decode cX6_init 7 = .ok (.newarray .float, 2) := by decide +kernel
theorem dX6_init_9 : decode cX6_init 9 = .ok (.putfield 9, 3) := by decide +kernel
theorem dX6_init_12 : decode cX6_init 12 = .ok (.aload_n 0, 1) := by decide +kernel
theorem dX6_init_13 : decode cX6_init 13 = .ok (.bipush 16, 2) := by decide +kernel
theorem dX6_init_15 : decode cX6_init 15 = .ok (.newarray .int, 2) := by decide +kernel
theorem dX6_init_17 : decode cX6_init 17 = .ok (.putfield 15, 3) := by decide +kernel
theorem dX6_init_20 : decode cX6_init 20 = .ok (.return_, 1) := by decide +kernel
set_option maxRecDepth 20000 in
theorem ggX6_measure_X4_setting : GoodIn wsX6_measure wsX4_setting := goodIn_r _ [9, 10, 56, 57, 58] (by decide +kernel) (by decide +kernel)
set_option maxRecDepth 20000 in
theorem gX6_measure_X4_setting : GoodIn wsX6_measure (wsV RX6 19 RX4 yX4_setting wsX4_setting) := goodIn_app (goodIn_of _ (by decide +kernel)) ggX6_measure_X4_setting
set_option maxRecDepth 20000 in
theorem ggX6_measure_X7_sizeOf : GoodIn wsX6_measure wsX7_sizeOf := goodIn_r _ [15, 16, 17, 18, 14, 19, 20, 21, 22, 23, 24, 25, 26, 27, 28, 29, 59] (by decide +kernel) (by decide +kernel)
set_option maxRecDepth 20000 in
theorem gX6_measure_X7_sizeOf : GoodIn wsX6_measure (wsV RX6 31 RX7 yX7_sizeOf wsX7_sizeOf) := goodIn_app (goodIn_of _ (by decide +kernel)) ggX6_measure_X7_sizeOf
set_option maxRecDepth 20000 in
theorem ggX6_measure_X6_measureScene : GoodIn wsX6_measure wsX6_measureScene := goodIn_r _ [33, 3, 11, 12, 13, 14, 15, 16, 17, 18, 19, 20, 21, 22, 23, 24, 25, 26, 27, 28, 29, 34, 35, 36, 37, 38, 39, 40, 41, 42, 43, 44, 45, 56, 57, 58, 59, 60, 61] (by decide +kernel) (by decide +kernel)
set_option maxRecDepth 20000 in
theorem gX6_measure_X6_measureScene : GoodIn wsX6_measure (va_wsS RX6 36 yX6_measureScene wsX6_measureScene) := goodIn_app (goodIn_of _ (by decide +kernel)) ggX6_measure_X6_measureScene
set_option maxRecDepth 20000 in
theorem ggX6_measure_X6_tensionOf : GoodIn wsX6_measure wsX6_tensionOf := goodIn_r _ [49, 2, 3, 54, 55] (by decide +kernel) (by decide +kernel)
set_option maxRecDepth 20000 in
theorem gX6_measure_X6_tensionOf : GoodIn wsX6_measure (wsV RX6 40 RX6 yX6_tensionOf wsX6_tensionOf) := goodIn_app (goodIn_of _ (by decide +kernel)) ggX6_measure_X6_tensionOf
set_option maxRecDepth 20000 in
theorem ggX6_measure_X6_climbTo : GoodIn wsX6_measure wsX6_climbTo := goodIn_r _ [53, 4, 54, 55] (by decide +kernel) (by decide +kernel)
set_option maxRecDepth 20000 in
theorem gX6_measure_X6_climbTo : GoodIn wsX6_measure (wsV RX6 44 RX6 yX6_climbTo wsX6_climbTo) := goodIn_app (goodIn_of _ (by decide +kernel)) ggX6_measure_X6_climbTo
theorem dX6_measure_0 : decode cX6_measure 0 = .ok (.aload_n 1, 1) := by decide +kernel
theorem dX6_measure_1 : decode cX6_measure 1 = .ok (.iconst 2, 1) := by decide +kernel
theorem dX6_measure_2 : decode cX6_measure 2 = .ok (.invokevirtual 19, 3) := by decide +kernel
theorem dX6_measure_5 : decode cX6_measure 5 = .ok (.i2f, 1) := by decide +kernel
theorem dX6_measure_6 : decode cX6_measure 6 = .ok (.ldc 25, 2) := by decide +kernel
theorem dX6_measure_8 : decode cX6_measure 8 = .ok (.fdiv, 1) := by decide +kernel
theorem dX6_measure_9 : decode cX6_measure 9 = .ok (.fstore_n 2, 1) := by decide +kernel
theorem dX6_measure_10 : decode cX6_measure 10 = .ok (.bipush (-5), 2) := by decide +kernel
theorem dX6_measure_12 : decode cX6_measure 12 = .ok (.istore_n 3, 1) := by decide +kernel
theorem dX6_measure_13 : decode cX6_measure 13 = .ok (.iconst 0, 1) := by decide +kernel
theorem dX6_measure_14 : decode cX6_measure 14 = .ok (.istore 4, 2) := by decide +kernel
theorem dX6_measure_16 : decode cX6_measure 16 = .ok (.iload 4, 2) := by decide +kernel
theorem dX6_measure_18 : decode cX6_measure 18 = .ok (.bipush 16, 2) := by decide +kernel
theorem dX6_measure_20 : decode cX6_measure 20 = .ok (.if_icmp .ge 108, 3) := by decide +kernel
theorem dX6_measure_23 : decode cX6_measure 23 = .ok (.aload_n 0, 1) := by decide +kernel
theorem dX6_measure_24 : decode cX6_measure 24 = .ok (.getfield 9, 3) := by decide +kernel
theorem dX6_measure_27 : decode cX6_measure 27 = .ok (.iload 4, 2) := by decide +kernel
theorem dX6_measure_29 : decode cX6_measure 29 = .ok (.ldc 26, 2) := by decide +kernel
theorem dX6_measure_31 : decode cX6_measure 31 = .ok (.fastore, 1) := by decide +kernel
theorem dX6_measure_32 : decode cX6_measure 32 = .ok (.aload_n 0, 1) := by decide +kernel
theorem dX6_measure_33 : decode cX6_measure 33 = .ok (.getfield 15, 3) := by decide +kernel
theorem dX6_measure_36 : decode cX6_measure 36 = .ok (.iload 4, 2) := by decide +kernel
theorem dX6_measure_38 : decode cX6_measure 38 = .ok (.iconst 0, 1) := by decide +kernel
theorem dX6_measure_39 : decode cX6_measure 39 = .ok (.iastore, 1) := by decide +kernel
theorem dX6_measure_40 : decode cX6_measure 40 = .ok (.aload_n 1, 1) := by decide +kernel
theorem dX6_measure_41 : decode cX6_measure 41 = .ok (.getfield 27, 3) := by decide +kernel
theorem dX6_measure_44 : decode cX6_measure 44 = .ok (.iload 4, 2) := by decide +kernel
theorem dX6_measure_46 : decode cX6_measure 46 = .ok (.invokevirtual 31, 3) := by decide +kernel
theorem dX6_measure_49 : decode cX6_measure 49 = .ok (.ifCond .le 73, 3) := by decide +kernel
theorem dX6_measure_52 : decode cX6_measure 52 = .ok (.aload_n 0, 1) := by decide +kernel
theorem dX6_measure_53 : decode cX6_measure 53 = .ok (.getfield 9, 3) := by decide +kernel
theorem dX6_measure_56 : decode cX6_measure 56 = .ok (.iload 4, 2) := by decide +kernel
theorem dX6_measure_58 : decode cX6_measure 58 = .ok (.aload_n 1, 1) := by decide +kernel
theorem dX6_measure_59 : decode cX6_measure 59 = .ok (.iload 4, 2) := by decide +kernel
theorem dX6_measure_61 : decode cX6_measure 61 = .ok (.invokestatic 36, 3) := by decide +kernel
theorem dX6_measure_64 : decode cX6_measure 64 = .ok (.fastore, 1) := by decide +kernel
theorem dX6_measure_65 : decode cX6_measure 65 = .ok (.iload_n 3, 1) := by decide +kernel
theorem dX6_measure_66 : decode cX6_measure 66 = .ok (.bipush (-5), 2) := by decide +kernel
theorem dX6_measure_68 : decode cX6_measure 68 = .ok (.if_icmp .eq 25, 3) := by decide +kernel
theorem dX6_measure_71 : decode cX6_measure 71 = .ok (.aload_n 0, 1) := by decide +kernel
theorem dX6_measure_72 : decode cX6_measure 72 = .ok (.getfield 9, 3) := by decide +kernel
theorem dX6_measure_75 : decode cX6_measure 75 = .ok (.iload 4, 2) := by decide +kernel
theorem dX6_measure_77 : decode cX6_measure 77 = .ok (.faload, 1) := by decide +kernel
theorem dX6_measure_78 : decode cX6_measure 78 = .ok (.aload_n 0, 1) := by decide +kernel
theorem dX6_measure_79 : decode cX6_measure 79 = .ok (.iload_n 3, 1) := by decide +kernel
theorem dX6_measure_80 : decode cX6_measure 80 = .ok (.invokevirtual 40, 3) := by decide +kernel
theorem dX6_measure_83 : decode cX6_measure 83 = .ok (.fsub, 1) := by decide +kernel
theorem dX6_measure_84 : decode cX6_measure 84 = .ok (.fload_n 2, 1) := by decide +kernel
theorem dX6_measure_85 : decode cX6_measure 85 = .ok (.fcmp .l, 1) := by decide +kernel
theorem dX6_measure_86 : decode cX6_measure 86 = .ok (.ifCond .lt 7, 3) := by decide +kernel
theorem dX6_measure_89 : decode cX6_measure 89 = .ok (.iconst 1, 1) := by decide +kernel
theorem dX6_measure_90 : decode cX6_measure 90 = .ok (.goto 4, 3) := by decide +kernel
theorem dX6_measure_93 : decode cX6_measure 93 = .ok (.iconst 0, 1) := by decide +kernel
theorem dX6_measure_94 : decode cX6_measure 94 = .ok (.istore 5, 2) := by decide +kernel
theorem dX6_measure_96 : decode cX6_measure 96 = .ok (.aload_n 0, 1) := by decide +kernel
theorem dX6_measure_97 : decode cX6_measure 97 = .ok (.getfield 15, 3) := by decide +kernel
theorem dX6_measure_100 : decode cX6_measure 100 = .ok (.iload 4, 2) := by decide +kernel
theorem dX6_measure_102 : decode cX6_measure 102 = .ok (.iload 5, 2) := by decide +kernel
theorem dX6_measure_104 : decode cX6_measure 104 = .ok (.ifCond .eq 13, 3) := by decide +kernel
theorem dX6_measure_107 : decode cX6_measure 107 = .ok (.aload_n 0, 1) := by decide +kernel
theorem dX6_measure_108 : decode cX6_measure 108 = .ok (.iload_n 3, 1) := by decide +kernel
theorem dX6_measure_109 : decode cX6_measure 109 = .ok (.invokevirtual 44, 3) := by decide +kernel
theorem dX6_measure_112 : decode cX6_measure 112 = .ok (.iconst 1, 1) := by decide +kernel
theorem dX6_measure_113 : decode cX6_measure 113 = .ok (.iadd, 1) := by decide +kernel
theorem dX6_measure_114 : decode cX6_measure 114 = .ok (.goto 4, 3) := by decide +kernel
theorem dX6_measure_117 : decode cX6_measure 117 = .ok (.iconst 1, 1) := by decide +kernel
theorem dX6_measure_118 : decode cX6_measure 118 = .ok (.iastore, 1) := by decide +kernel
theorem dX6_measure_119 : decode cX6_measure 119 = .ok (.iload 4, 2) := by decide +kernel
theorem dX6_measure_121 : decode cX6_measure 121 = .ok (.istore_n 3, 1) := by decide +kernel
theorem dX6_measure_122 : decode cX6_measure 122 = .ok (.iinc 4 1, 3) := by decide +kernel
theorem dX6_measure_125 : decode cX6_measure 125 = .ok (.goto (-109), 3) := by decide +kernel
theorem dX6_measure_128 : decode cX6_measure 128 = .ok (.return_, 1) := by decide +kernel
set_option maxRecDepth 20000 in
theorem ggX6_measureScene_X7_sizeOf : GoodIn wsX6_measureScene wsX7_sizeOf := goodIn_r _ [6, 7, 8, 9, 5, 10, 11, 12, 13, 14, 15, 16, 17, 18, 19, 20, 36] (by decide +kernel) (by decide +kernel)
set_option maxRecDepth 20000 in
theorem gX6_measureScene_X7_sizeOf : GoodIn wsX6_measureScene (wsV RX6 31 RX7 yX7_sizeOf wsX7_sizeOf) := goodIn_app (goodIn_of _ (by decide +kernel)) ggX6_measureScene_X7_sizeOf
set_option maxRecDepth 20000 in
theorem ggX6_measureScene_X7_cardIn : GoodIn wsX6_measureScene wsX7_cardIn := goodIn_r _ [10, 11, 12, 13, 14, 15, 16, 17, 18, 5, 19, 20, 36] (by decide +kernel) (by decide +kernel)
set_option maxRecDepth 20000 in
theorem gX6_measureScene_X7_cardIn : GoodIn wsX6_measureScene (wsV RX6 47 RX7 yX7_cardIn wsX7_cardIn) := goodIn_app (goodIn_of _ (by decide +kernel)) ggX6_measureScene_X7_cardIn
set_option maxRecDepth 20000 in
theorem ggX6_measureScene_X1_number : GoodIn wsX6_measureScene wsX1_number := goodIn_r _ [26, 27, 28, 29, 30, 25, 31, 32, 37, 38] (by decide +kernel) (by decide +kernel)
set_option maxRecDepth 20000 in
theorem gX6_measureScene_X1_number : GoodIn wsX6_measureScene (wsV RX6 55 RX1 yX1_number wsX1_number) := goodIn_app (goodIn_of _ (by decide +kernel)) ggX6_measureScene_X1_number
theorem dX6_measureScene_0 : decode cX6_measureScene 0 = .ok (.fconst 0, 1) := by decide +kernel
theorem dX6_measureScene_1 : decode cX6_measureScene 1 = .ok (.fstore_n 2, 1) := by decide +kernel
theorem dX6_measureScene_2 : decode cX6_measureScene 2 = .ok (.iconst 0, 1) := by decide +kernel
theorem dX6_measureScene_3 : decode cX6_measureScene 3 = .ok (.istore_n 3, 1) := by decide +kernel
theorem dX6_measureScene_4 : decode cX6_measureScene 4 = .ok (.iconst 0, 1) := by decide +kernel
theorem dX6_measureScene_5 : decode cX6_measureScene 5 = .ok (.istore 4, 2) := by decide +kernel
theorem dX6_measureScene_7 : decode cX6_measureScene 7 = .ok (.iload 4, 2) := by decide +kernel
theorem dX6_measureScene_9 : decode cX6_measureScene 9 = .ok (.aload_n 0, 1) := by decide +kernel
theorem dX6_measureScene_10 : decode cX6_measureScene 10 = .ok (.getfield 27, 3) := by decide +kernel
theorem dX6_measureScene_13 : decode cX6_measureScene 13 = .ok (.iload_n 1, 1) := by decide +kernel
theorem dX6_measureScene_14 : decode cX6_measureScene 14 = .ok (.invokevirtual 31, 3) := by decide +kernel
theorem dX6_measureScene_17 : decode cX6_measureScene 17 = .ok (.if_icmp .ge 56, 3) := by decide +kernel
theorem dX6_measureScene_20 : decode cX6_measureScene 20 = .ok (.aload_n 0, 1) := by decide +kernel
theorem dX6_measureScene_21 : decode cX6_measureScene 21 = .ok (.getfield 27, 3) := by decide +kernel
theorem dX6_measureScene_24 : decode cX6_measureScene 24 = .ok (.iload_n 1, 1) := by decide +kernel
theorem dX6_measureScene_25 : decode cX6_measureScene 25 = .ok (.iload 4, 2) := by decide +kernel
theorem dX6_measureScene_27 : decode cX6_measureScene 27 = .ok (.invokevirtual 47, 3) := by decide +kernel
theorem dX6_measureScene_30 : decode cX6_measureScene 30 = .ok (.istore 5, 2) := by decide +kernel
theorem dX6_measureScene_32 : decode cX6_measureScene 32 = .ok (.aload_n 0, 1) := by decide +kernel
theorem dX6_measureScene_33 : decode cX6_measureScene 33 = .ok (.getfield 51, 3) := by decide +kernel
theorem dX6_measureScene_36 : decode cX6_measureScene 36 = .ok (.iload 5, 2) := by decide +kernel
theorem dX6_measureScene_38 : decode cX6_measureScene 38 = .ok (.iconst 2, 1) := by decide +kernel
theorem dX6_measureScene_39 : decode cX6_measureScene 39 = .ok (.invokevirtual 55, 3) := by decide +kernel
theorem dX6_measureScene_42 : decode cX6_measureScene 42 = .ok (.istore 6, 2) := by decide +kernel
theorem dX6_measureScene_44 : decode cX6_measureScene 44 = .ok (.fload_n 2, 1) := by decide +kernel
theorem dX6_measureScene_45 : decode cX6_measureScene 45 = .ok (.aload_n 0, 1) := by decide +kernel
theorem dX6_measureScene_46 : decode cX6_measureScene 46 = .ok (.getfield 51, 3) := by decide +kernel
theorem dX6_measureScene_49 : decode cX6_measureScene 49 = .ok (.iload 5, 2) := by decide +kernel
theorem dX6_measureScene_51 : decode cX6_measureScene 51 = .ok (.iconst 3, 1) := by decide +kernel
theorem dX6_measureScene_52 : decode cX6_measureScene 52 = .ok (.invokevirtual 55, 3) := by decide +kernel
theorem dX6_measureScene_55 : decode cX6_measureScene 55 = .ok (.i2f, 1) := by decide +kernel
theorem dX6_measureScene_56 : decode cX6_measureScene 56 = .ok (.iload 6, 2) := by decide +kernel
theorem dX6_measureScene_58 : decode cX6_measureScene 58 = .ok (.i2f, 1) := by decide +kernel
theorem dX6_measureScene_59 : decode cX6_measureScene 59 = .ok (.fmul, 1) := by decide +kernel
theorem dX6_measureScene_60 : decode cX6_measureScene 60 = .ok (.fadd, 1) := by decide +kernel
theorem dX6_measureScene_61 : decode cX6_measureScene 61 = .ok (.fstore_n 2, 1) := by decide +kernel
theorem dX6_measureScene_62 : decode cX6_measureScene 62 = .ok (.iload_n 3, 1) := by decide +kernel
theorem dX6_measureScene_63 : decode cX6_measureScene 63 = .ok (.iload 6, 2) := by decide +kernel
theorem dX6_measureScene_65 : decode cX6_measureScene 65 = .ok (.iadd, 1) := by decide +kernel
theorem dX6_measureScene_66 : decode cX6_measureScene 66 = .ok (.istore_n 3, 1) := by decide +kernel
theorem dX6_measureScene_67 : decode cX6_measureScene 67 = .ok (.iinc 4 1, 3) := by decide +kernel
theorem dX6_measureScene_70 : decode cX6_measureScene 70 = .ok (.goto (-63), 3) := by decide +kernel
theorem dX6_measureScene_73 : decode cX6_measureScene 73 = .ok (.iload_n 3, 1) := by decide +kernel
theorem dX6_measureScene_74 : decode cX6_measureScene 74 = .ok (.ifCond .le 10, 3) := by decide +kernel
theorem dX6_measureScene_77 : decode cX6_measureScene 77 = .ok (.fload_n 2, 1) := by decide +kernel
theorem dX6_measureScene_78 : decode cX6_measureScene 78 = .ok (.iload_n 3, 1) := by decide +kernel
theorem dX6_measureScene_79 : decode cX6_measureScene 79 = .ok (.i2f, 1) := by decide +kernel
theorem dX6_measureScene_80 : decode cX6_measureScene 80 = .ok (.fdiv, 1) := by decide +kernel
theorem dX6_measureScene_81 : decode cX6_measureScene 81 = .ok (.goto 5, 3) := by decide +kernel
theorem dX6_measureScene_84 : decode cX6_measureScene 84 = .ok (.ldc 26, 2) := by decide +kernel
theorem dX6_measureScene_86 : decode cX6_measureScene 86 = .ok (.freturn, 1) := by decide +kernel
theorem dX6_tensionOf_0 : decode cX6_tensionOf 0 = .ok (.iload_n 1, 1) := by decide +kernel
theorem dX6_tensionOf_1 : decode cX6_tensionOf 1 = .ok (.ifCond .lt 21, 3) := by decide +kernel
theorem dX6_tensionOf_4 : decode cX6_tensionOf 4 = .ok (.iload_n 1, 1) := by decide +kernel
theorem dX6_tensionOf_5 : decode cX6_tensionOf 5 = .ok (.aload_n 0, 1) := by decide +kernel
theorem dX6_tensionOf_6 : decode cX6_tensionOf 6 = .ok (.getfield 9, 3) := by decide +kernel
theorem dX6_tensionOf_9 : decode cX6_tensionOf 9 = .ok (.arraylength, 1) := by decide +kernel
theorem dX6_tensionOf_10 : decode cX6_tensionOf 10 = .ok (.if_icmp .ge 12, 3) := by decide +kernel
theorem dX6_tensionOf_13 : decode cX6_tensionOf 13 = .ok (.aload_n 0, 1) := by decide +kernel
theorem dX6_tensionOf_14 : decode cX6_tensionOf 14 = .ok (.getfield 9, 3) := by decide +kernel
theorem dX6_tensionOf_17 : decode cX6_tensionOf 17 = .ok (.iload_n 1, 1) := by decide +kernel
theorem dX6_tensionOf_18 : decode cX6_tensionOf 18 = .ok (.faload, 1) := by decide +kernel
theorem dX6_tensionOf_19 : decode cX6_tensionOf 19 = .ok (.goto 5, 3) := by decide +kernel
theorem dX6_tensionOf_22 : decode cX6_tensionOf 22 = .ok (.ldc 26, 2) := by decide +kernel
theorem dX6_tensionOf_24 : decode cX6_tensionOf 24 = .ok (.freturn, 1) := by decide +kernel
theorem dX6_climbTo_0 : decode cX6_climbTo 0 = .ok (.iload_n 1, 1) := by decide +kernel
theorem dX6_climbTo_1 : decode cX6_climbTo 1 = .ok (.ifCond .lt 21, 3) := by decide +kernel
theorem dX6_climbTo_4 : decode cX6_climbTo 4 = .ok (.iload_n 1, 1) := by decide +kernel
theorem dX6_climbTo_5 : decode cX6_climbTo 5 = .ok (.aload_n 0, 1) := by decide +kernel
theorem dX6_climbTo_6 : decode cX6_climbTo 6 = .ok (.getfield 15, 3) := by decide +kernel
theorem dX6_climbTo_9 : decode cX6_climbTo 9 = .ok (.arraylength, 1) := by decide +kernel
theorem dX6_climbTo_10 : decode cX6_climbTo 10 = .ok (.if_icmp .ge 12, 3) := by decide +kernel
theorem dX6_climbTo_13 : decode cX6_climbTo 13 = .ok (.aload_n 0, 1) := by decide +kernel
theorem dX6_climbTo_14 : decode cX6_climbTo 14 = .ok (.getfield 15, 3) := by decide +kernel
theorem dX6_climbTo_17 : decode cX6_climbTo 17 = .ok (.iload_n 1, 1) := by decide +kernel
theorem dX6_climbTo_18 : decode cX6_climbTo 18 = .ok (.iaload, 1) := by decide +kernel
theorem dX6_climbTo_19 : decode cX6_climbTo 19 = .ok (.goto 4, 3) := by decide +kernel
theorem dX6_climbTo_22 : decode cX6_climbTo 22 = .ok (.iconst 0, 1) := by decide +kernel
theorem dX6_climbTo_23 : decode cX6_climbTo 23 = .ok (.ireturn, 1) := by decide +kernel
set_option maxRecDepth 20000 in
theorem ggX6_rises_X6_climbTo : GoodIn wsX6_rises wsX6_climbTo := goodIn_r _ [5, 6, 7, 8] (by decide +kernel) (by decide +kernel)
set_option maxRecDepth 20000 in
theorem gX6_rises_X6_climbTo : GoodIn wsX6_rises (wsV RX6 44 RX6 yX6_climbTo wsX6_climbTo) := goodIn_app (goodIn_of _ (by decide +kernel)) ggX6_rises_X6_climbTo
theorem dX6_rises_0 : decode cX6_rises 0 = .ok (.aload_n 0, 1) := by decide +kernel
theorem dX6_rises_1 : decode cX6_rises 1 = .ok (.iload_n 1, 1) := by decide +kernel
theorem dX6_rises_2 : decode cX6_rises 2 = .ok (.invokevirtual 44, 3) := by decide +kernel
theorem dX6_rises_5 : decode cX6_rises 5 = .ok (.iconst 1, 1) := by decide +kernel
theorem dX6_rises_6 : decode cX6_rises 6 = .ok (.if_icmp .le 7, 3) := by decide +kernel
theorem dX6_rises_9 : decode cX6_rises 9 = .ok (.iconst 1, 1) := by decide +kernel
theorem dX6_rises_10 : decode cX6_rises 10 = .ok (.goto 4, 3) := by decide +kernel
theorem dX6_rises_13 : decode cX6_rises 13 = .ok (.iconst 0, 1) := by decide +kernel
theorem dX6_rises_14 : decode cX6_rises 14 = .ok (.ireturn, 1) := by decide +kernel
set_option maxRecDepth 20000 in
theorem ggX6_longestClimb_X6_climbTo : GoodIn wsX6_longestClimb wsX6_climbTo := goodIn_r _ [9, 10, 11, 12] (by decide +kernel) (by decide +kernel)
set_option maxRecDepth 20000 in
theorem gX6_longestClimb_X6_climbTo : GoodIn wsX6_longestClimb (wsV RX6 44 RX6 yX6_climbTo wsX6_climbTo) := goodIn_app (goodIn_of _ (by decide +kernel)) ggX6_longestClimb_X6_climbTo
theorem dX6_longestClimb_0 : decode cX6_longestClimb 0 = .ok (.iconst 0, 1) := by decide +kernel
theorem dX6_longestClimb_1 : decode cX6_longestClimb 1 = .ok (.istore_n 1, 1) := by decide +kernel
theorem dX6_longestClimb_2 : decode cX6_longestClimb 2 = .ok (.iconst 0, 1) := by decide +kernel
theorem dX6_longestClimb_3 : decode cX6_longestClimb 3 = .ok (.istore_n 2, 1) := by decide +kernel
theorem dX6_longestClimb_4 : decode cX6_longestClimb 4 = .ok (.iload_n 2, 1) := by decide +kernel
theorem dX6_longestClimb_5 : decode cX6_longestClimb 5 = .ok (.bipush 16, 2) := by decide +kernel
theorem dX6_longestClimb_7 : decode cX6_longestClimb 7 = .ok (.if_icmp .ge 19, 3) := by decide +kernel
theorem dX6_longestClimb_10 : decode cX6_longestClimb 10 = .ok (.iload_n 1, 1) := by decide +kernel
theorem dX6_longestClimb_11 : decode cX6_longestClimb 11 = .ok (.aload_n 0, 1) := by decide +kernel
theorem dX6_longestClimb_12 : decode cX6_longestClimb 12 = .ok (.iload_n 2, 1) := by decide +kernel
theorem dX6_longestClimb_13 : decode cX6_longestClimb 13 = .ok (.invokevirtual 44, 3) := by decide +kernel
theorem dX6_longestClimb_16 : decode cX6_longestClimb 16 = .ok (.invokestatic 60, 3) := by decide +kernel
theorem dX6_longestClimb_19 : decode cX6_longestClimb 19 = .ok (.istore_n 1, 1) := by decide +kernel
theorem dX6_longestClimb_20 : decode cX6_longestClimb 20 = .ok (.iinc 2 1, 3) := by decide +kernel
theorem dX6_longestClimb_23 : decode cX6_longestClimb 23 = .ok (.goto (-19), 3) := by decide +kernel
theorem dX6_longestClimb_26 : decode cX6_longestClimb 26 = .ok (.iload_n 1, 1) := by decide +kernel
theorem dX6_longestClimb_27 : decode cX6_longestClimb 27 = .ok (.ireturn, 1) := by decide +kernel
set_option maxRecDepth 20000 in
theorem ggX6_span_X6_climbTo : GoodIn wsX6_span wsX6_climbTo := goodIn_r _ [5, 6, 13, 14] (by decide +kernel) (by decide +kernel)
set_option maxRecDepth 20000 in
theorem gX6_span_X6_climbTo : GoodIn wsX6_span (wsV RX6 44 RX6 yX6_climbTo wsX6_climbTo) := goodIn_app (goodIn_of _ (by decide +kernel)) ggX6_span_X6_climbTo
set_option maxRecDepth 20000 in
theorem ggX6_span_X6_tensionOf : GoodIn wsX6_span wsX6_tensionOf := goodIn_r _ [10, 11, 12, 13, 14] (by decide +kernel) (by decide +kernel)
set_option maxRecDepth 20000 in
theorem gX6_span_X6_tensionOf : GoodIn wsX6_span (wsV RX6 40 RX6 yX6_tensionOf wsX6_tensionOf) := goodIn_app (goodIn_of _ (by decide +kernel)) ggX6_span_X6_tensionOf
theorem dX6_span_0 : decode cX6_span 0 = .ok (.iconst 0, 1) := by decide +kernel
theorem dX6_span_1 : decode cX6_span 1 = .ok (.istore_n 1, 1) := by decide +kernel
theorem dX6_span_2 : decode cX6_span 2 = .ok (.fconst 0, 1) := by decide +kernel
theorem dX6_span_3 : decode cX6_span 3 = .ok (.fstore_n 2, 1) := by decide +kernel
theorem dX6_span_4 : decode cX6_span 4 = .ok (.fconst 0, 1) := by decide +kernel
theorem dX6_span_5 : decode cX6_span 5 = .ok (.fstore_n 3, 1) := by decide +kernel
theorem dX6_span_6 : decode cX6_span 6 = .ok (.iconst 0, 1) := by decide +kernel
theorem dX6_span_7 : decode cX6_span 7 = .ok (.istore 4, 2) := by decide +kernel
theorem dX6_span_9 : decode cX6_span 9 = .ok (.iload 4, 2) := by decide +kernel
theorem dX6_span_11 : decode cX6_span 11 = .ok (.bipush 16, 2) := by decide +kernel
theorem dX6_span_13 : decode cX6_span 13 = .ok (.if_icmp .ge 64, 3) := by decide +kernel
theorem dX6_span_16 : decode cX6_span 16 = .ok (.aload_n 0, 1) := by decide +kernel
theorem dX6_span_17 : decode cX6_span 17 = .ok (.iload 4, 2) := by decide +kernel
theorem dX6_span_19 : decode cX6_span 19 = .ok (.invokevirtual 44, 3) := by decide +kernel
theorem dX6_span_22 : decode cX6_span 22 = .ok (.ifCond .le 49, 3) := by decide +kernel
theorem dX6_span_25 : decode cX6_span 25 = .ok (.aload_n 0, 1) := by decide +kernel
theorem dX6_span_26 : decode cX6_span 26 = .ok (.iload 4, 2) := by decide +kernel
theorem dX6_span_28 : decode cX6_span 28 = .ok (.invokevirtual 40, 3) := by decide +kernel
theorem dX6_span_31 : decode cX6_span 31 = .ok (.fstore 5, 2) := by decide +kernel
theorem dX6_span_33 : decode cX6_span 33 = .ok (.iload_n 1, 1) := by decide +kernel
theorem dX6_span_34 : decode cX6_span 34 = .ok (.ifCond .eq 10, 3) := by decide +kernel
theorem dX6_span_37 : decode cX6_span 37 = .ok (.fload 5, 2) := by decide +kernel
theorem dX6_span_39 : decode cX6_span 39 = .ok (.fload_n 2, 1) := by decide +kernel
theorem dX6_span_40 : decode cX6_span 40 = .ok (.fcmp .g, 1) := by decide +kernel
theorem dX6_span_41 : decode cX6_span 41 = .ok (.ifCond .ge 8, 3) := by decide +kernel
theorem dX6_span_44 : decode cX6_span 44 = .ok (.fload 5, 2) := by decide +kernel
theorem dX6_span_46 : decode cX6_span 46 = .ok (.goto 4, 3) := by decide +kernel
theorem dX6_span_49 : decode cX6_span 49 = .ok (.fload_n 2, 1) := by decide +kernel
theorem dX6_span_50 : decode cX6_span 50 = .ok (.fstore_n 2, 1) := by decide +kernel
theorem dX6_span_51 : decode cX6_span 51 = .ok (.iload_n 1, 1) := by decide +kernel
theorem dX6_span_52 : decode cX6_span 52 = .ok (.ifCond .eq 10, 3) := by decide +kernel
theorem dX6_span_55 : decode cX6_span 55 = .ok (.fload 5, 2) := by decide +kernel
theorem dX6_span_57 : decode cX6_span 57 = .ok (.fload_n 3, 1) := by decide +kernel
theorem dX6_span_58 : decode cX6_span 58 = .ok (.fcmp .l, 1) := by decide +kernel
theorem dX6_span_59 : decode cX6_span 59 = .ok (.ifCond .le 8, 3) := by decide +kernel
theorem dX6_span_62 : decode cX6_span 62 = .ok (.fload 5, 2) := by decide +kernel
theorem dX6_span_64 : decode cX6_span 64 = .ok (.goto 4, 3) := by decide +kernel
theorem dX6_span_67 : decode cX6_span 67 = .ok (.fload_n 3, 1) := by decide +kernel
theorem dX6_span_68 : decode cX6_span 68 = .ok (.fstore_n 3, 1) := by decide +kernel
theorem dX6_span_69 : decode cX6_span 69 = .ok (.iconst 1, 1) := by decide +kernel
theorem dX6_span_70 : decode cX6_span 70 = .ok (.istore_n 1, 1) := by decide +kernel
theorem dX6_span_71 : decode cX6_span 71 = .ok (.iinc 4 1, 3) := by decide +kernel
theorem dX6_span_74 : decode cX6_span 74 = .ok (.goto (-65), 3) := by decide +kernel
theorem dX6_span_77 : decode cX6_span 77 = .ok (.fload_n 3, 1) := by decide +kernel
theorem dX6_span_78 : decode cX6_span 78 = .ok (.fload_n 2, 1) := by decide +kernel
theorem dX6_span_79 : decode cX6_span 79 = .ok (.fsub, 1) := by decide +kernel
theorem dX6_span_80 : decode cX6_span 80 = .ok (.freturn, 1) := by decide +kernel
theorem dX7_init_0 : decode cX7_init 0 = .ok (.aload_n 0, 1) := by decide +kernel
theorem dX7_init_1 : decode cX7_init 1 = .ok (.invokespecial 3, 3) := by decide +kernel
theorem dX7_init_4 : decode cX7_init 4 = .ok (.aload_n 0, 1) := by decide +kernel
theorem dX7_init_5 : decode cX7_init 5 = .ok (.bipush 96, 2) := by decide +kernel
theorem dX7_init_7 : decode cX7_init 7 = .ok (.newarray .int, 2) := by decide +kernel
theorem dX7_init_9 : decode cX7_init 9 = .ok (.putfield 9, 3) := by decide +kernel
theorem dX7_init_12 : decode cX7_init 12 = .ok (.iconst 0, 1) := by decide +kernel
theorem dX7_init_13 : decode cX7_init 13 = .ok (.istore_n 1, 1) := by decide +kernel
theorem dX7_init_14 : decode cX7_init 14 = .ok (.iload_n 1, 1) := by decide +kernel
theorem dX7_init_15 : decode cX7_init 15 = .ok (.aload_n 0, 1) := by decide +kernel
theorem dX7_init_16 : decode cX7_init 16 = .ok (.getfield 9, 3) := by decide +kernel
theorem dX7_init_19 : decode cX7_init 19 = .ok (.arraylength, 1) := by decide +kernel
theorem dX7_init_20 : decode cX7_init 20 = .ok (.if_icmp .ge 17, 3) := by decide +kernel
theorem dX7_init_23 : decode cX7_init 23 = .ok (.aload_n 0, 1) := by decide +kernel
theorem dX7_init_24 : decode cX7_init 24 = .ok (.getfield 9, 3) := by decide +kernel
theorem dX7_init_27 : decode cX7_init 27 = .ok (.iload_n 1, 1) := by decide +kernel
theorem dX7_init_28 : decode cX7_init 28 = .ok (.bipush (-5), 2) := by decide +kernel
theorem dX7_init_30 : decode cX7_init 30 = .ok (.iastore, 1) := by decide +kernel
theorem dX7_init_31 : decode cX7_init 31 = .ok (.iinc 1 1, 3) := by decide +kernel
theorem dX7_init_34 : decode cX7_init 34 = .ok (.goto (-20), 3) := by decide +kernel
theorem dX7_init_37 : decode cX7_init 37 = .ok (.return_, 1) := by decide +kernel
theorem dX7_copyFrom_0 : decode cX7_copyFrom 0 = .ok (.aload_n 1, 1) := by decide +kernel
theorem dX7_copyFrom_1 : decode cX7_copyFrom 1 = .ok (.getfield 9, 3) := by decide +kernel
theorem dX7_copyFrom_4 : decode cX7_copyFrom 4 = .ok (.iconst 0, 1) := by decide +kernel
theorem dX7_copyFrom_5 : decode cX7_copyFrom 5 = .ok (.aload_n 0, 1) := by decide +kernel
theorem dX7_copyFrom_6 : decode cX7_copyFrom 6 = .ok (.getfield 9, 3) := by decide +kernel
theorem dX7_copyFrom_9 : decode cX7_copyFrom 9 = .ok (.iconst 0, 1) := by decide +kernel
theorem dX7_copyFrom_10 : decode cX7_copyFrom 10 = .ok (.aload_n 0, 1) := by decide +kernel
theorem dX7_copyFrom_11 : decode cX7_copyFrom 11 = .ok (.getfield 9, 3) := by decide +kernel
theorem dX7_copyFrom_14 : decode cX7_copyFrom 14 = .ok (.arraylength, 1) := by decide +kernel
theorem dX7_copyFrom_15 : decode cX7_copyFrom 15 = .ok (.invokestatic 15, 3) := by decide +kernel
theorem dX7_copyFrom_18 : decode cX7_copyFrom 18 = .ok (.return_, 1) := by decide +kernel
theorem dX7_cardAt_0 : decode cX7_cardAt 0 = .ok (.iload_n 1, 1) := by decide +kernel
theorem dX7_cardAt_1 : decode cX7_cardAt 1 = .ok (.ifCond .lt 21, 3) := by decide +kernel
theorem dX7_cardAt_4 : decode cX7_cardAt 4 = .ok (.iload_n 1, 1) := by decide +kernel
theorem dX7_cardAt_5 : decode cX7_cardAt 5 = .ok (.aload_n 0, 1) := by decide +kernel
theorem dX7_cardAt_6 : decode cX7_cardAt 6 = .ok (.getfield 9, 3) := by decide +kernel
theorem dX7_cardAt_9 : decode cX7_cardAt 9 = .ok (.arraylength, 1) := by decide +kernel
theorem dX7_cardAt_10 : decode cX7_cardAt 10 = .ok (.if_icmp .ge 12, 3) := by decide +kernel
theorem dX7_cardAt_13 : decode cX7_cardAt 13 = .ok (.aload_n 0, 1) := by decide +kernel
theorem dX7_cardAt_14 : decode cX7_cardAt 14 = .ok (.getfield 9, 3) := by decide +kernel
theorem dX7_cardAt_17 : decode cX7_cardAt 17 = .ok (.iload_n 1, 1) := by decide +kernel
theorem dX7_cardAt_18 : decode cX7_cardAt 18 = .ok (.iaload, 1) := by decide +kernel
theorem dX7_cardAt_19 : decode cX7_cardAt 19 = .ok (.goto 5, 3) := by decide +kernel
theorem dX7_cardAt_22 : decode cX7_cardAt 22 = .ok (.bipush (-5), 2) := by decide +kernel
theorem dX7_cardAt_24 : decode cX7_cardAt 24 = .ok (.ireturn, 1) := by decide +kernel
theorem dX7_put_0 : decode cX7_put 0 = .ok (.iload_n 1, 1) := by decide +kernel
theorem dX7_put_1 : decode cX7_put 1 = .ok (.ifCond .lt 19, 3) := by decide +kernel
theorem dX7_put_4 : decode cX7_put 4 = .ok (.iload_n 1, 1) := by decide +kernel
theorem dX7_put_5 : decode cX7_put 5 = .ok (.aload_n 0, 1) := by decide +kernel
theorem dX7_put_6 : decode cX7_put 6 = .ok (.getfield 9, 3) := by decide +kernel
theorem dX7_put_9 : decode cX7_put 9 = .ok (.arraylength, 1) := by decide +kernel
theorem dX7_put_10 : decode cX7_put 10 = .ok (.if_icmp .ge 10, 3) := by decide +kernel
theorem dX7_put_13 : decode cX7_put 13 = .ok (.aload_n 0, 1) := by decide +kernel
theorem dX7_put_14 : decode cX7_put 14 = .ok (.getfield 9, 3) := by decide +kernel
theorem dX7_put_17 : decode cX7_put 17 = .ok (.iload_n 1, 1) := by decide +kernel
theorem dX7_put_18 : decode cX7_put 18 = .ok (.iload_n 2, 1) := by decide +kernel
theorem dX7_put_19 : decode cX7_put 19 = .ok (.iastore, 1) := by decide +kernel
theorem dX7_put_20 : decode cX7_put 20 = .ok (.return_, 1) := by decide +kernel
set_option maxRecDepth 20000 in
theorem ggX7_cardIn_X8_isScene : GoodIn wsX7_cardIn wsX8_isScene := goodIn_r _ [3] (by decide +kernel) (by decide +kernel)
set_option maxRecDepth 20000 in
theorem gX7_cardIn_X8_isScene_n21 : GoodIn wsX7_cardIn (wsX8_isScene) := ggX7_cardIn_X8_isScene
set_option maxRecDepth 20000 in
theorem ggX7_cardIn_X8_slot : GoodIn wsX7_cardIn wsX8_slot := goodIn_r _ [5] (by decide +kernel) (by decide +kernel)
set_option maxRecDepth 20000 in
theorem gX7_cardIn_X8_slot_n25 : GoodIn wsX7_cardIn (wsX8_slot) := ggX7_cardIn_X8_slot
set_option maxRecDepth 20000 in
theorem ggX7_cardIn_X7_cardAt : GoodIn wsX7_cardIn wsX7_cardAt := goodIn_r _ [10, 11, 12] (by decide +kernel) (by decide +kernel)
set_option maxRecDepth 20000 in
theorem gX7_cardIn_X7_cardAt : GoodIn wsX7_cardIn (wsV RX7 29 RX7 yX7_cardAt wsX7_cardAt) := goodIn_app (goodIn_of _ (by decide +kernel)) ggX7_cardIn_X7_cardAt
theorem dX7_cardIn_0 : decode cX7_cardIn 0 = .ok (.iload_n 1, 1) := by decide +kernel
theorem dX7_cardIn_1 : decode cX7_cardIn 1 = .ok (.invokestatic 21, 3) := by decide +kernel
theorem dX7_cardIn_4 : decode cX7_cardIn 4 = .ok (.ifCond .eq 25, 3) := by decide +kernel
theorem dX7_cardIn_7 : decode cX7_cardIn 7 = .ok (.iload_n 2, 1) := by decide +kernel
theorem dX7_cardIn_8 : decode cX7_cardIn 8 = .ok (.ifCond .lt 21, 3) := by decide +kernel
theorem dX7_cardIn_11 : decode cX7_cardIn 11 = .ok (.iload_n 2, 1) := by decide +kernel
theorem dX7_cardIn_12 : decode cX7_cardIn 12 = .ok (.bipush 6, 2) := by decide +kernel
theorem dX7_cardIn_14 : decode cX7_cardIn 14 = .ok (.if_icmp .ge 15, 3) := by decide +kernel
theorem dX7_cardIn_17 : decode cX7_cardIn 17 = .ok (.aload_n 0, 1) := by decide +kernel
theorem dX7_cardIn_18 : decode cX7_cardIn 18 = .ok (.iload_n 1, 1) := by decide +kernel
theorem dX7_cardIn_19 : decode cX7_cardIn 19 = .ok (.iload_n 2, 1) := by decide +kernel
theorem dX7_cardIn_20 : decode cX7_cardIn 20 = .ok (.invokestatic 25, 3) := by decide +kernel
theorem dX7_cardIn_23 : decode cX7_cardIn 23 = .ok (.invokevirtual 29, 3) := by decide +kernel
theorem dX7_cardIn_26 : decode cX7_cardIn 26 = .ok (.goto 5, 3) := by decide +kernel
theorem dX7_cardIn_29 : decode cX7_cardIn 29 = .ok (.bipush (-5), 2) := by decide +kernel
theorem dX7_cardIn_31 : decode cX7_cardIn 31 = .ok (.ireturn, 1) := by decide +kernel
set_option maxRecDepth 20000 in
theorem ggX7_sizeOf_X7_cardIn : GoodIn wsX7_sizeOf wsX7_cardIn := goodIn_r _ [5, 6, 7, 8, 9, 10, 11, 12, 13, 4, 14, 15, 16] (by decide +kernel) (by decide +kernel)
set_option maxRecDepth 20000 in
theorem gX7_sizeOf_X7_cardIn : GoodIn wsX7_sizeOf (wsV RX7 33 RX7 yX7_cardIn wsX7_cardIn) := goodIn_app (goodIn_of _ (by decide +kernel)) ggX7_sizeOf_X7_cardIn
theorem dX7_sizeOf_0 : decode cX7_sizeOf 0 = .ok (.iconst 0, 1) := by decide +kernel
theorem dX7_sizeOf_1 : decode cX7_sizeOf 1 = .ok (.istore_n 2, 1) := by decide +kernel
theorem dX7_sizeOf_2 : decode cX7_sizeOf 2 = .ok (.iconst 0, 1) := by decide +kernel
theorem dX7_sizeOf_3 : decode cX7_sizeOf 3 = .ok (.istore_n 3, 1) := by decide +kernel
theorem dX7_sizeOf_4 : decode cX7_sizeOf 4 = .ok (.iload_n 3, 1) := by decide +kernel
theorem dX7_sizeOf_5 : decode cX7_sizeOf 5 = .ok (.bipush 6, 2) := by decide +kernel
theorem dX7_sizeOf_7 : decode cX7_sizeOf 7 = .ok (.if_icmp .ge 23, 3) := by decide +kernel
theorem dX7_sizeOf_10 : decode cX7_sizeOf 10 = .ok (.aload_n 0, 1) := by decide +kernel
theorem dX7_sizeOf_11 : decode cX7_sizeOf 11 = .ok (.iload_n 1, 1) := by decide +kernel
theorem dX7_sizeOf_12 : decode cX7_sizeOf 12 = .ok (.iload_n 3, 1) := by decide +kernel
theorem dX7_sizeOf_13 : decode cX7_sizeOf 13 = .ok (.invokevirtual 33, 3) := by decide +kernel
theorem dX7_sizeOf_16 : decode cX7_sizeOf 16 = .ok (.bipush (-5), 2) := by decide +kernel
theorem dX7_sizeOf_18 : decode cX7_sizeOf 18 = .ok (.if_icmp .eq 6, 3) := by decide +kernel
theorem dX7_sizeOf_21 : decode cX7_sizeOf 21 = .ok (.iinc 2 1, 3) := by decide +kernel
theorem dX7_sizeOf_24 : decode cX7_sizeOf 24 = .ok (.iinc 3 1, 3) := by decide +kernel
theorem dX7_sizeOf_27 : decode cX7_sizeOf 27 = .ok (.goto (-23), 3) := by decide +kernel
theorem dX7_sizeOf_30 : decode cX7_sizeOf 30 = .ok (.iload_n 2, 1) := by decide +kernel
theorem dX7_sizeOf_31 : decode cX7_sizeOf 31 = .ok (.ireturn, 1) := by decide +kernel
set_option maxRecDepth 20000 in
theorem ggX7_cardsAheadOf_X7_cardAt : GoodIn wsX7_cardsAheadOf wsX7_cardAt := goodIn_r _ [6, 1, 7] (by decide +kernel) (by decide +kernel)
set_option maxRecDepth 20000 in
theorem gX7_cardsAheadOf_X7_cardAt : GoodIn wsX7_cardsAheadOf (wsV RX7 29 RX7 yX7_cardAt wsX7_cardAt) := goodIn_app (goodIn_of _ (by decide +kernel)) ggX7_cardsAheadOf_X7_cardAt
theorem dX7_cardsAheadOf_0 : decode cX7_cardsAheadOf 0 = .ok (.iconst 0, 1) := by decide +kernel
theorem dX7_cardsAheadOf_1 : decode cX7_cardsAheadOf 1 = .ok (.istore_n 2, 1) := by decide +kernel
theorem dX7_cardsAheadOf_2 : decode cX7_cardsAheadOf 2 = .ok (.iconst 0, 1) := by decide +kernel
theorem dX7_cardsAheadOf_3 : decode cX7_cardsAheadOf 3 = .ok (.istore_n 3, 1) := by decide +kernel
theorem dX7_cardsAheadOf_4 : decode cX7_cardsAheadOf 4 = .ok (.iload_n 3, 1) := by decide +kernel
theorem dX7_cardsAheadOf_5 : decode cX7_cardsAheadOf 5 = .ok (.iload_n 1, 1) := by decide +kernel
theorem dX7_cardsAheadOf_6 : decode cX7_cardsAheadOf 6 = .ok (.if_icmp .ge 31, 3) := by decide +kernel
theorem dX7_cardsAheadOf_9 : decode cX7_cardsAheadOf 9 = .ok (.iload_n 3, 1) := by decide +kernel
theorem dX7_cardsAheadOf_10 : decode cX7_cardsAheadOf 10 = .ok (.aload_n 0, 1) := by decide +kernel
theorem dX7_cardsAheadOf_11 : decode cX7_cardsAheadOf 11 = .ok (.getfield 9, 3) := by decide +kernel
theorem dX7_cardsAheadOf_14 : decode cX7_cardsAheadOf 14 = .ok (.arraylength, 1) := by decide +kernel
theorem dX7_cardsAheadOf_15 : decode cX7_cardsAheadOf 15 = .ok (.if_icmp .ge 22, 3) := by decide +kernel
theorem dX7_cardsAheadOf_18 : decode cX7_cardsAheadOf 18 = .ok (.aload_n 0, 1) := by decide +kernel
theorem dX7_cardsAheadOf_19 : decode cX7_cardsAheadOf 19 = .ok (.iload_n 3, 1) := by decide +kernel
theorem dX7_cardsAheadOf_20 : decode cX7_cardsAheadOf 20 = .ok (.invokevirtual 29, 3) := by decide +kernel
theorem dX7_cardsAheadOf_23 : decode cX7_cardsAheadOf 23 = .ok (.bipush (-5), 2) := by decide +kernel
theorem dX7_cardsAheadOf_25 : decode cX7_cardsAheadOf 25 = .ok (.if_icmp .eq 6, 3) := by decide +kernel
theorem dX7_cardsAheadOf_28 : decode cX7_cardsAheadOf 28 = .ok (.iinc 2 1, 3) := by decide +kernel
theorem dX7_cardsAheadOf_31 : decode cX7_cardsAheadOf 31 = .ok (.iinc 3 1, 3) := by decide +kernel
theorem dX7_cardsAheadOf_34 : decode cX7_cardsAheadOf 34 = .ok (.goto (-30), 3) := by decide +kernel
theorem dX7_cardsAheadOf_37 : decode cX7_cardsAheadOf 37 = .ok (.iload_n 2, 1) := by decide +kernel
theorem dX7_cardsAheadOf_38 : decode cX7_cardsAheadOf 38 = .ok (.ireturn, 1) := by decide +kernel
set_option maxRecDepth 20000 in
theorem ggX7_cards_X7_cardsAheadOf : GoodIn wsX7_cards wsX7_cardsAheadOf := goodIn_r _ [6, 1, 7, 8, 9, 5, 10, 11] (by decide +kernel) (by decide +kernel)
set_option maxRecDepth 20000 in
theorem gX7_cards_X7_cardsAheadOf : GoodIn wsX7_cards (wsV RX7 36 RX7 yX7_cardsAheadOf wsX7_cardsAheadOf) := goodIn_app (goodIn_of _ (by decide +kernel)) ggX7_cards_X7_cardsAheadOf
theorem dX7_cards_0 : decode cX7_cards 0 = .ok (.aload_n 0, 1) := by decide +kernel
theorem dX7_cards_1 : decode cX7_cards 1 = .ok (.aload_n 0, 1) := by decide +kernel
theorem dX7_cards_2 : decode cX7_cards 2 = .ok (.getfield 9, 3) := by decide +kernel
theorem dX7_cards_5 : decode cX7_cards 5 = .ok (.arraylength, 1) := by decide +kernel
theorem dX7_cards_6 : decode cX7_cards 6 = .ok (.invokevirtual 36, 3) := by decide +kernel
theorem dX7_cards_9 : decode cX7_cards 9 = .ok (.ireturn, 1) := by decide +kernel
set_option maxRecDepth 20000 in
theorem ggX7_slotOf_X7_cardAt : GoodIn wsX7_slotOf wsX7_cardAt := goodIn_r _ [6, 1, 7] (by decide +kernel) (by decide +kernel)
set_option maxRecDepth 20000 in
theorem gX7_slotOf_X7_cardAt : GoodIn wsX7_slotOf (wsV RX7 29 RX7 yX7_cardAt wsX7_cardAt) := goodIn_app (goodIn_of _ (by decide +kernel)) ggX7_slotOf_X7_cardAt
theorem dX7_slotOf_0 : decode cX7_slotOf 0 = .ok (.iconst 0, 1) := by decide +kernel
theorem dX7_slotOf_1 : decode cX7_slotOf 1 = .ok (.istore_n 2, 1) := by decide +kernel
theorem dX7_slotOf_2 : decode cX7_slotOf 2 = .ok (.iload_n 2, 1) := by decide +kernel
theorem dX7_slotOf_3 : decode cX7_slotOf 3 = .ok (.aload_n 0, 1) := by decide +kernel
theorem dX7_slotOf_4 : decode cX7_slotOf 4 = .ok (.getfield 9, 3) := by decide +kernel
theorem dX7_slotOf_7 : decode cX7_slotOf 7 = .ok (.arraylength, 1) := by decide +kernel
theorem dX7_slotOf_8 : decode cX7_slotOf 8 = .ok (.if_icmp .ge 20, 3) := by decide +kernel
theorem dX7_slotOf_11 : decode cX7_slotOf 11 = .ok (.aload_n 0, 1) := by decide +kernel
theorem dX7_slotOf_12 : decode cX7_slotOf 12 = .ok (.iload_n 2, 1) := by decide +kernel
theorem dX7_slotOf_13 : decode cX7_slotOf 13 = .ok (.invokevirtual 29, 3) := by decide +kernel
theorem dX7_slotOf_16 : decode cX7_slotOf 16 = .ok (.iload_n 1, 1) := by decide +kernel
theorem dX7_slotOf_17 : decode cX7_slotOf 17 = .ok (.if_icmp .ne 5, 3) := by decide +kernel
theorem dX7_slotOf_20 : decode cX7_slotOf 20 = .ok (.iload_n 2, 1) := by decide +kernel
theorem dX7_slotOf_21 : decode cX7_slotOf 21 = .ok (.ireturn, 1) := by decide +kernel
theorem dX7_slotOf_22 : decode cX7_slotOf 22 = .ok (.iinc 2 1, 3) := by decide +kernel
theorem dX7_slotOf_25 : decode cX7_slotOf 25 = .ok (.goto (-23), 3) := by decide +kernel
theorem dX7_slotOf_28 : decode cX7_slotOf 28 = .ok (.bipush (-5), 2) := by decide +kernel
theorem dX7_slotOf_30 : decode cX7_slotOf 30 = .ok (.ireturn, 1) := by decide +kernel
set_option maxRecDepth 20000 in
theorem ggX7_isIn_X7_slotOf : GoodIn wsX7_isIn wsX7_slotOf := goodIn_r _ [5, 6, 7, 8, 9, 4, 10, 11] (by decide +kernel) (by decide +kernel)
set_option maxRecDepth 20000 in
theorem gX7_isIn_X7_slotOf : GoodIn wsX7_isIn (wsV RX7 39 RX7 yX7_slotOf wsX7_slotOf) := goodIn_app (goodIn_of _ (by decide +kernel)) ggX7_isIn_X7_slotOf
theorem dX7_isIn_0 : decode cX7_isIn 0 = .ok (.aload_n 0, 1) := by decide +kernel
theorem dX7_isIn_1 : decode cX7_isIn 1 = .ok (.iload_n 1, 1) := by decide +kernel
theorem dX7_isIn_2 : decode cX7_isIn 2 = .ok (.invokevirtual 39, 3) := by decide +kernel
theorem dX7_isIn_5 : decode cX7_isIn 5 = .ok (.istore_n 3, 1) := by decide +kernel
theorem dX7_isIn_6 : decode cX7_isIn 6 = .ok (.iload_n 3, 1) := by decide +kernel
theorem dX7_isIn_7 : decode cX7_isIn 7 = .ok (.bipush (-5), 2) := by decide +kernel
theorem dX7_isIn_9 : decode cX7_isIn 9 = .ok (.if_icmp .eq 15, 3) := by decide +kernel
theorem dX7_isIn_12 : decode cX7_isIn 12 = .ok (.iload_n 3, 1) := by decide +kernel
theorem dX7_isIn_13 : decode cX7_isIn 13 = .ok (.bipush 6, 2) := by decide +kernel
theorem dX7_isIn_15 : decode cX7_isIn 15 = .ok (.idiv, 1) := by decide +kernel
theorem dX7_isIn_16 : decode cX7_isIn 16 = .ok (.iload_n 2, 1) := by decide +kernel
theorem dX7_isIn_17 : decode cX7_isIn 17 = .ok (.if_icmp .ne 7, 3) := by decide +kernel
theorem dX7_isIn_20 : decode cX7_isIn 20 = .ok (.iconst 1, 1) := by decide +kernel
theorem dX7_isIn_21 : decode cX7_isIn 21 = .ok (.goto 4, 3) := by decide +kernel
theorem dX7_isIn_24 : decode cX7_isIn 24 = .ok (.iconst 0, 1) := by decide +kernel
theorem dX7_isIn_25 : decode cX7_isIn 25 = .ok (.ireturn, 1) := by decide +kernel
set_option maxRecDepth 20000 in
theorem ggX7_takeOff_X7_slotOf : GoodIn wsX7_takeOff wsX7_slotOf := goodIn_r _ [5, 6, 7, 8, 9, 4, 10, 18] (by decide +kernel) (by decide +kernel)
set_option maxRecDepth 20000 in
theorem gX7_takeOff_X7_slotOf : GoodIn wsX7_takeOff (wsV RX7 39 RX7 yX7_slotOf wsX7_slotOf) := goodIn_app (goodIn_of _ (by decide +kernel)) ggX7_takeOff_X7_slotOf
set_option maxRecDepth 20000 in
theorem ggX7_takeOff_X8_slot : GoodIn wsX7_takeOff wsX8_slot := goodIn_r _ [13] (by decide +kernel) (by decide +kernel)
set_option maxRecDepth 20000 in
theorem gX7_takeOff_X8_slot_n25 : GoodIn wsX7_takeOff (wsX8_slot) := ggX7_takeOff_X8_slot
set_option maxRecDepth 20000 in
theorem ggX7_takeOff_X7_cardAt : GoodIn wsX7_takeOff wsX7_cardAt := goodIn_r _ [10, 6, 18] (by decide +kernel) (by decide +kernel)
set_option maxRecDepth 20000 in
theorem gX7_takeOff_X7_cardAt : GoodIn wsX7_takeOff (wsV RX7 29 RX7 yX7_cardAt wsX7_cardAt) := goodIn_app (goodIn_of _ (by decide +kernel)) ggX7_takeOff_X7_cardAt
set_option maxRecDepth 20000 in
theorem ggX7_takeOff_X7_put : GoodIn wsX7_takeOff wsX7_put := goodIn_r _ [17, 6, 18] (by decide +kernel) (by decide +kernel)
set_option maxRecDepth 20000 in
theorem gX7_takeOff_X7_put : GoodIn wsX7_takeOff (wsV RX7 42 RX7 yX7_put wsX7_put) := goodIn_app (goodIn_of _ (by decide +kernel)) ggX7_takeOff_X7_put
theorem dX7_takeOff_0 : decode cX7_takeOff 0 = .ok (.aload_n 0, 1) := by decide +kernel
theorem dX7_takeOff_1 : decode cX7_takeOff 1 = .ok (.iload_n 1, 1) := by decide +kernel
theorem dX7_takeOff_2 : decode cX7_takeOff 2 = .ok (.invokevirtual 39, 3) := by decide +kernel
theorem dX7_takeOff_5 : decode cX7_takeOff 5 = .ok (.istore_n 2, 1) := by decide +kernel
theorem dX7_takeOff_6 : decode cX7_takeOff 6 = .ok (.iload_n 2, 1) := by decide +kernel
theorem dX7_takeOff_7 : decode cX7_takeOff 7 = .ok (.bipush (-5), 2) := by decide +kernel
theorem dX7_takeOff_9 : decode cX7_takeOff 9 = .ok (.if_icmp .ne 4, 3) := by decide +kernel
theorem dX7_takeOff_12 : decode cX7_takeOff 12 = .ok (.return_, 1) := by decide +kernel
theorem dX7_takeOff_13 : decode cX7_takeOff 13 = .ok (.iload_n 2, 1) := by decide +kernel
theorem dX7_takeOff_14 : decode cX7_takeOff 14 = .ok (.bipush 6, 2) := by decide +kernel
theorem dX7_takeOff_16 : decode cX7_takeOff 16 = .ok (.idiv, 1) := by decide +kernel
theorem dX7_takeOff_17 : decode cX7_takeOff 17 = .ok (.iconst 5, 1) := by decide +kernel
theorem dX7_takeOff_18 : decode cX7_takeOff 18 = .ok (.invokestatic 25, 3) := by decide +kernel
theorem dX7_takeOff_21 : decode cX7_takeOff 21 = .ok (.istore_n 3, 1) := by decide +kernel
theorem dX7_takeOff_22 : decode cX7_takeOff 22 = .ok (.iload_n 2, 1) := by decide +kernel
theorem dX7_takeOff_23 : decode cX7_takeOff 23 = .ok (.istore 4, 2) := by decide +kernel
theorem dX7_takeOff_25 : decode cX7_takeOff 25 = .ok (.iload 4, 2) := by decide +kernel
theorem dX7_takeOff_27 : decode cX7_takeOff 27 = .ok (.iload_n 3, 1) := by decide +kernel
theorem dX7_takeOff_28 : decode cX7_takeOff 28 = .ok (.if_icmp .ge 23, 3) := by decide +kernel
theorem dX7_takeOff_31 : decode cX7_takeOff 31 = .ok (.aload_n 0, 1) := by decide +kernel
theorem dX7_takeOff_32 : decode cX7_takeOff 32 = .ok (.iload 4, 2) := by decide +kernel
theorem dX7_takeOff_34 : decode cX7_takeOff 34 = .ok (.aload_n 0, 1) := by decide +kernel
theorem dX7_takeOff_35 : decode cX7_takeOff 35 = .ok (.iload 4, 2) := by decide +kernel
theorem dX7_takeOff_37 : decode cX7_takeOff 37 = .ok (.iconst 1, 1) := by decide +kernel
theorem dX7_takeOff_38 : decode cX7_takeOff 38 = .ok (.iadd, 1) := by decide +kernel
theorem dX7_takeOff_39 : decode cX7_takeOff 39 = .ok (.invokevirtual 29, 3) := by decide +kernel
theorem dX7_takeOff_42 : decode cX7_takeOff 42 = .ok (.invokevirtual 42, 3) := by decide +kernel
theorem dX7_takeOff_45 : decode cX7_takeOff 45 = .ok (.iinc 4 1, 3) := by decide +kernel
theorem dX7_takeOff_48 : decode cX7_takeOff 48 = .ok (.goto (-23), 3) := by decide +kernel
theorem dX7_takeOff_51 : decode cX7_takeOff 51 = .ok (.aload_n 0, 1) := by decide +kernel
theorem dX7_takeOff_52 : decode cX7_takeOff 52 = .ok (.iload_n 3, 1) := by decide +kernel
theorem dX7_takeOff_53 : decode cX7_takeOff 53 = .ok (.bipush (-5), 2) := by decide +kernel
theorem dX7_takeOff_55 : decode cX7_takeOff 55 = .ok (.invokevirtual 42, 3) := by decide +kernel
theorem dX7_takeOff_58 : decode cX7_takeOff 58 = .ok (.return_, 1) := by decide +kernel
set_option maxRecDepth 20000 in
theorem ggX7_putIn_X8_slot : GoodIn wsX7_putIn wsX8_slot := goodIn_r _ [3] (by decide +kernel) (by decide +kernel)
set_option maxRecDepth 20000 in
theorem gX7_putIn_X8_slot_n25 : GoodIn wsX7_putIn (wsX8_slot) := ggX7_putIn_X8_slot
set_option maxRecDepth 20000 in
theorem ggX7_putIn_X7_cardAt : GoodIn wsX7_putIn wsX7_cardAt := goodIn_r _ [8, 9, 14] (by decide +kernel) (by decide +kernel)
set_option maxRecDepth 20000 in
theorem gX7_putIn_X7_cardAt : GoodIn wsX7_putIn (wsV RX7 29 RX7 yX7_cardAt wsX7_cardAt) := goodIn_app (goodIn_of _ (by decide +kernel)) ggX7_putIn_X7_cardAt
set_option maxRecDepth 20000 in
theorem ggX7_putIn_X7_put : GoodIn wsX7_putIn wsX7_put := goodIn_r _ [13, 9, 14] (by decide +kernel) (by decide +kernel)
set_option maxRecDepth 20000 in
theorem gX7_putIn_X7_put : GoodIn wsX7_putIn (wsV RX7 42 RX7 yX7_put wsX7_put) := goodIn_app (goodIn_of _ (by decide +kernel)) ggX7_putIn_X7_put
theorem dX7_putIn_0 : decode cX7_putIn 0 = .ok (.iload_n 2, 1) := by decide +kernel
theorem dX7_putIn_1 : decode cX7_putIn 1 = .ok (.iload_n 3, 1) := by decide +kernel
theorem dX7_putIn_2 : decode cX7_putIn 2 = .ok (.invokestatic 25, 3) := by decide +kernel
theorem dX7_putIn_5 : decode cX7_putIn 5 = .ok (.istore 4, 2) := by decide +kernel
theorem dX7_putIn_7 : decode cX7_putIn 7 = .ok (.iload_n 2, 1) := by decide +kernel
theorem dX7_putIn_8 : decode cX7_putIn 8 = .ok (.iconst 5, 1) := by decide +kernel
theorem dX7_putIn_9 : decode cX7_putIn 9 = .ok (.invokestatic 25, 3) := by decide +kernel
theorem dX7_putIn_12 : decode cX7_putIn 12 = .ok (.istore 5, 2) := by decide +kernel
theorem dX7_putIn_14 : decode cX7_putIn 14 = .ok (.iload 5, 2) := by decide +kernel
theorem dX7_putIn_16 : decode cX7_putIn 16 = .ok (.iload 4, 2) := by decide +kernel
theorem dX7_putIn_18 : decode cX7_putIn 18 = .ok (.if_icmp .le 23, 3) := by decide +kernel
theorem dX7_putIn_21 : decode cX7_putIn 21 = .ok (.aload_n 0, 1) := by decide +kernel
theorem dX7_putIn_22 : decode cX7_putIn 22 = .ok (.iload 5, 2) := by decide +kernel
theorem dX7_putIn_24 : decode cX7_putIn 24 = .ok (.aload_n 0, 1) := by decide +kernel
theorem dX7_putIn_25 : decode cX7_putIn 25 = .ok (.iload 5, 2) := by decide +kernel
theorem dX7_putIn_27 : decode cX7_putIn 27 = .ok (.iconst 1, 1) := by decide +kernel
theorem dX7_putIn_28 : decode cX7_putIn 28 = .ok (.isub, 1) := by decide +kernel
theorem dX7_putIn_29 : decode cX7_putIn 29 = .ok (.invokevirtual 29, 3) := by decide +kernel
theorem dX7_putIn_32 : decode cX7_putIn 32 = .ok (.invokevirtual 42, 3) := by decide +kernel
theorem dX7_putIn_35 : decode cX7_putIn 35 = .ok (.iinc 5 (-1), 3) := by decide +kernel
theorem dX7_putIn_38 : decode cX7_putIn 38 = .ok (.goto (-24), 3) := by decide +kernel
theorem dX7_putIn_41 : decode cX7_putIn 41 = .ok (.aload_n 0, 1) := by decide +kernel
theorem dX7_putIn_42 : decode cX7_putIn 42 = .ok (.iload 4, 2) := by decide +kernel
theorem dX7_putIn_44 : decode cX7_putIn 44 = .ok (.iload_n 1, 1) := by decide +kernel
theorem dX7_putIn_45 : decode cX7_putIn 45 = .ok (.invokevirtual 42, 3) := by decide +kernel
theorem dX7_putIn_48 : decode cX7_putIn 48 = .ok (.return_, 1) := by decide +kernel
set_option maxRecDepth 20000 in
theorem ggX7_exchange_X7_cardAt : GoodIn wsX7_exchange wsX7_cardAt := goodIn_r _ [5, 6, 11] (by decide +kernel) (by decide +kernel)
set_option maxRecDepth 20000 in
theorem gX7_exchange_X7_cardAt : GoodIn wsX7_exchange (wsV RX7 29 RX7 yX7_cardAt wsX7_cardAt) := goodIn_app (goodIn_of _ (by decide +kernel)) ggX7_exchange_X7_cardAt
set_option maxRecDepth 20000 in
theorem ggX7_exchange_X7_put : GoodIn wsX7_exchange wsX7_put := goodIn_r _ [10, 6, 11] (by decide +kernel) (by decide +kernel)
set_option maxRecDepth 20000 in
theorem gX7_exchange_X7_put : GoodIn wsX7_exchange (wsV RX7 42 RX7 yX7_put wsX7_put) := goodIn_app (goodIn_of _ (by decide +kernel)) ggX7_exchange_X7_put
theorem dX7_exchange_0 : decode cX7_exchange 0 = .ok (.aload_n 0, 1) := by decide +kernel
theorem dX7_exchange_1 : decode cX7_exchange 1 = .ok (.iload_n 1, 1) := by decide +kernel
theorem dX7_exchange_2 : decode cX7_exchange 2 = .ok (.invokevirtual 29, 3) := by decide +kernel
theorem dX7_exchange_5 : decode cX7_exchange 5 = .ok (.istore_n 3, 1) := by decide +kernel
theorem dX7_exchange_6 : decode cX7_exchange 6 = .ok (.aload_n 0, 1) := by decide +kernel
theorem dX7_exchange_7 : decode cX7_exchange 7 = .ok (.iload_n 1, 1) := by decide +kernel
theorem dX7_exchange_8 : decode cX7_exchange 8 = .ok (.aload_n 0, 1) := by decide +kernel
theorem dX7_exchange_9 : decode cX7_exchange 9 = .ok (.iload_n 2, 1) := by decide +kernel
theorem dX7_exchange_10 : decode cX7_exchange 10 = .ok (.invokevirtual 29, 3) := by decide +kernel
theorem dX7_exchange_13 : decode cX7_exchange 13 = .ok (.invokevirtual 42, 3) := by decide +kernel
theorem dX7_exchange_16 : decode cX7_exchange 16 = .ok (.aload_n 0, 1) := by decide +kernel
theorem dX7_exchange_17 : decode cX7_exchange 17 = .ok (.iload_n 2, 1) := by decide +kernel
theorem dX7_exchange_18 : decode cX7_exchange 18 = .ok (.iload_n 3, 1) := by decide +kernel
theorem dX7_exchange_19 : decode cX7_exchange 19 = .ok (.invokevirtual 42, 3) := by decide +kernel
theorem dX7_exchange_22 : decode cX7_exchange 22 = .ok (.return_, 1) := by decide +kernel
set_option maxRecDepth 20000 in
theorem ggX7_exchangeScenes_X8_slot : GoodIn wsX7_exchangeScenes wsX8_slot := goodIn_r _ [3] (by decide +kernel) (by decide +kernel)
set_option maxRecDepth 20000 in
theorem gX7_exchangeScenes_X8_slot_n25 : GoodIn wsX7_exchangeScenes (wsX8_slot) := ggX7_exchangeScenes_X8_slot
set_option maxRecDepth 20000 in
theorem ggX7_exchangeScenes_X7_exchange : GoodIn wsX7_exchangeScenes wsX7_exchange := goodIn_r _ [8, 9, 10, 11, 7, 12, 13, 14, 15, 16, 17, 18] (by decide +kernel) (by decide +kernel)
set_option maxRecDepth 20000 in
theorem gX7_exchangeScenes_X7_exchange : GoodIn wsX7_exchangeScenes (wsV RX7 46 RX7 yX7_exchange wsX7_exchange) := goodIn_app (goodIn_of _ (by decide +kernel)) ggX7_exchangeScenes_X7_exchange
theorem dX7_exchangeScenes_0 : decode cX7_exchangeScenes 0 = .ok (.iconst 0, 1) := by decide +kernel
theorem dX7_exchangeScenes_1 : decode cX7_exchangeScenes 1 = .ok (.istore_n 3, 1) := by decide +kernel
theorem dX7_exchangeScenes_2 : decode cX7_exchangeScenes 2 = .ok (.iload_n 3, 1) := by decide +kernel
theorem dX7_exchangeScenes_3 : decode cX7_exchangeScenes 3 = .ok (.bipush 6, 2) := by decide +kernel
theorem dX7_exchangeScenes_5 : decode cX7_exchangeScenes 5 = .ok (.if_icmp .ge 23, 3) := by decide +kernel
theorem dX7_exchangeScenes_8 : decode cX7_exchangeScenes 8 = .ok (.aload_n 0, 1) := by decide +kernel
theorem dX7_exchangeScenes_9 : decode cX7_exchangeScenes 9 = .ok (.iload_n 1, 1) := by decide +kernel
theorem dX7_exchangeScenes_10 : decode cX7_exchangeScenes 10 = .ok (.iload_n 3, 1) := by decide +kernel
theorem dX7_exchangeScenes_11 : decode cX7_exchangeScenes 11 = .ok (.invokestatic 25, 3) := by decide +kernel
theorem dX7_exchangeScenes_14 : decode cX7_exchangeScenes 14 = .ok (.iload_n 2, 1) := by decide +kernel
theorem dX7_exchangeScenes_15 : decode cX7_exchangeScenes 15 = .ok (.iload_n 3, 1) := by decide +kernel
theorem dX7_exchangeScenes_16 : decode cX7_exchangeScenes 16 = .ok (.invokestatic 25, 3) := by decide +kernel
theorem dX7_exchangeScenes_19 : decode cX7_exchangeScenes 19 = .ok (.invokevirtual 46, 3) := by decide +kernel
theorem dX7_exchangeScenes_22 : decode cX7_exchangeScenes 22 = .ok (.iinc 3 1, 3) := by decide +kernel
theorem dX7_exchangeScenes_25 : decode cX7_exchangeScenes 25 = .ok (.goto (-23), 3) := by decide +kernel
theorem dX7_exchangeScenes_28 : decode cX7_exchangeScenes 28 = .ok (.return_, 1) := by decide +kernel
set_option maxRecDepth 20000 in
theorem ggX7_scenesWithCards_X7_sizeOf : GoodIn wsX7_scenesWithCards wsX7_sizeOf := goodIn_r _ [5, 6, 7, 8, 4, 9, 10, 11, 12, 13, 14, 15, 16, 17, 18, 19, 20] (by decide +kernel) (by decide +kernel)
set_option maxRecDepth 20000 in
theorem gX7_scenesWithCards_X7_sizeOf : GoodIn wsX7_scenesWithCards (wsV RX7 49 RX7 yX7_sizeOf wsX7_sizeOf) := goodIn_app (goodIn_of _ (by decide +kernel)) ggX7_scenesWithCards_X7_sizeOf
theorem dX7_scenesWithCards_0 : decode cX7_scenesWithCards 0 = .ok (.iconst 0, 1) := by decide +kernel
theorem dX7_scenesWithCards_1 : decode cX7_scenesWithCards 1 = .ok (.istore_n 1, 1) := by decide +kernel
theorem dX7_scenesWithCards_2 : decode cX7_scenesWithCards 2 = .ok (.iconst 0, 1) := by decide +kernel
theorem dX7_scenesWithCards_3 : decode cX7_scenesWithCards 3 = .ok (.istore_n 2, 1) := by decide +kernel
theorem dX7_scenesWithCards_4 : decode cX7_scenesWithCards 4 = .ok (.iload_n 2, 1) := by decide +kernel
theorem dX7_scenesWithCards_5 : decode cX7_scenesWithCards 5 = .ok (.bipush 16, 2) := by decide +kernel
theorem dX7_scenesWithCards_7 : decode cX7_scenesWithCards 7 = .ok (.if_icmp .ge 20, 3) := by decide +kernel
theorem dX7_scenesWithCards_10 : decode cX7_scenesWithCards 10 = .ok (.aload_n 0, 1) := by decide +kernel
theorem dX7_scenesWithCards_11 : decode cX7_scenesWithCards 11 = .ok (.iload_n 2, 1) := by decide +kernel
theorem dX7_scenesWithCards_12 : decode cX7_scenesWithCards 12 = .ok (.invokevirtual 49, 3) := by decide +kernel
theorem dX7_scenesWithCards_15 : decode cX7_scenesWithCards 15 = .ok (.ifCond .le 6, 3) := by decide +kernel
theorem dX7_scenesWithCards_18 : decode cX7_scenesWithCards 18 = .ok (.iinc 1 1, 3) := by decide +kernel
theorem dX7_scenesWithCards_21 : decode cX7_scenesWithCards 21 = .ok (.iinc 2 1, 3) := by decide +kernel
theorem dX7_scenesWithCards_24 : decode cX7_scenesWithCards 24 = .ok (.goto (-20), 3) := by decide +kernel
theorem dX7_scenesWithCards_27 : decode cX7_scenesWithCards 27 = .ok (.iload_n 1, 1) := by decide +kernel
theorem dX7_scenesWithCards_28 : decode cX7_scenesWithCards 28 = .ok (.ireturn, 1) := by decide +kernel
set_option maxRecDepth 20000 in
theorem ggX7_hasCards_X7_sizeOf : GoodIn wsX7_hasCards wsX7_sizeOf := goodIn_r _ [5, 6, 7, 8, 4, 9, 10, 11, 12, 13, 14, 15, 16, 17, 18, 19, 20] (by decide +kernel) (by decide +kernel)
set_option maxRecDepth 20000 in
theorem gX7_hasCards_X7_sizeOf : GoodIn wsX7_hasCards (wsV RX7 49 RX7 yX7_sizeOf wsX7_sizeOf) := goodIn_app (goodIn_of _ (by decide +kernel)) ggX7_hasCards_X7_sizeOf
theorem dX7_hasCards_0 : decode cX7_hasCards 0 = .ok (.iload_n 1, 1) := by decide +kernel
theorem dX7_hasCards_1 : decode cX7_hasCards 1 = .ok (.istore_n 3, 1) := by decide +kernel
theorem dX7_hasCards_2 : decode cX7_hasCards 2 = .ok (.iload_n 3, 1) := by decide +kernel
theorem dX7_hasCards_3 : decode cX7_hasCards 3 = .ok (.iload_n 2, 1) := by decide +kernel
theorem dX7_hasCards_4 : decode cX7_hasCards 4 = .ok (.if_icmp .ge 25, 3) := by decide +kernel
theorem dX7_hasCards_7 : decode cX7_hasCards 7 = .ok (.iload_n 3, 1) := by decide +kernel
theorem dX7_hasCards_8 : decode cX7_hasCards 8 = .ok (.bipush 16, 2) := by decide +kernel
theorem dX7_hasCards_10 : decode cX7_hasCards 10 = .ok (.if_icmp .ge 19, 3) := by decide +kernel
theorem dX7_hasCards_13 : decode cX7_hasCards 13 = .ok (.aload_n 0, 1) := by decide +kernel
theorem dX7_hasCards_14 : decode cX7_hasCards 14 = .ok (.iload_n 3, 1) := by decide +kernel
theorem dX7_hasCards_15 : decode cX7_hasCards 15 = .ok (.invokevirtual 49, 3) := by decide +kernel
theorem dX7_hasCards_18 : decode cX7_hasCards 18 = .ok (.ifCond .le 5, 3) := by decide +kernel
theorem dX7_hasCards_21 : decode cX7_hasCards 21 = .ok (.iconst 1, 1) := by decide +kernel
theorem dX7_hasCards_22 : decode cX7_hasCards 22 = .ok (.ireturn, 1) := by decide +kernel
theorem dX7_hasCards_23 : decode cX7_hasCards 23 = .ok (.iinc 3 1, 3) := by decide +kernel
theorem dX7_hasCards_26 : decode cX7_hasCards 26 = .ok (.goto (-24), 3) := by decide +kernel
theorem dX7_hasCards_29 : decode cX7_hasCards 29 = .ok (.iconst 0, 1) := by decide +kernel
theorem dX7_hasCards_30 : decode cX7_hasCards 30 = .ok (.ireturn, 1) := by decide +kernel
set_option maxRecDepth 20000 in
theorem ggX7_isHole_X7_sizeOf : GoodIn wsX7_isHole wsX7_sizeOf := goodIn_r _ [5, 6, 7, 8, 4, 9, 10, 11, 12, 13, 14, 15, 16, 17, 18, 19, 24] (by decide +kernel) (by decide +kernel)
set_option maxRecDepth 20000 in
theorem gX7_isHole_X7_sizeOf : GoodIn wsX7_isHole (wsV RX7 49 RX7 yX7_sizeOf wsX7_sizeOf) := goodIn_app (goodIn_of _ (by decide +kernel)) ggX7_isHole_X7_sizeOf
set_option maxRecDepth 20000 in
theorem ggX7_isHole_X7_hasCards : GoodIn wsX7_isHole wsX7_hasCards := goodIn_r _ [23, 1, 2, 3, 4, 5, 6, 7, 8, 9, 10, 11, 12, 13, 14, 15, 16, 17, 18, 19, 24] (by decide +kernel) (by decide +kernel)
set_option maxRecDepth 20000 in
theorem gX7_isHole_X7_hasCards : GoodIn wsX7_isHole (wsV RX7 52 RX7 yX7_hasCards wsX7_hasCards) := goodIn_app (goodIn_of _ (by decide +kernel)) ggX7_isHole_X7_hasCards
theorem dX7_isHole_0 : decode cX7_isHole 0 = .ok (.aload_n 0, 1) := by decide +kernel
theorem dX7_isHole_1 : decode cX7_isHole 1 = .ok (.iload_n 1, 1) := by decide +kernel
theorem dX7_isHole_2 : decode cX7_isHole 2 = .ok (.invokevirtual 49, 3) := by decide +kernel
theorem dX7_isHole_5 : decode cX7_isHole 5 = .ok (.ifCond .ne 28, 3) := by decide +kernel
theorem dX7_isHole_8 : decode cX7_isHole 8 = .ok (.aload_n 0, 1) := by decide +kernel
theorem dX7_isHole_9 : decode cX7_isHole 9 = .ok (.iconst 0, 1) := by decide +kernel
theorem dX7_isHole_10 : decode cX7_isHole 10 = .ok (.iload_n 1, 1) := by decide +kernel
theorem dX7_isHole_11 : decode cX7_isHole 11 = .ok (.invokevirtual 52, 3) := by decide +kernel
theorem dX7_isHole_14 : decode cX7_isHole 14 = .ok (.ifCond .eq 19, 3) := by decide +kernel
theorem dX7_isHole_17 : decode cX7_isHole 17 = .ok (.aload_n 0, 1) := by decide +kernel
theorem dX7_isHole_18 : decode cX7_isHole 18 = .ok (.iload_n 1, 1) := by decide +kernel
theorem dX7_isHole_19 : decode cX7_isHole 19 = .ok (.iconst 1, 1) := by decide +kernel
theorem dX7_isHole_20 : decode cX7_isHole 20 = .ok (.iadd, 1) := by decide +kernel
theorem dX7_isHole_21 : decode cX7_isHole 21 = .ok (.bipush 16, 2) := by decide +kernel
theorem dX7_isHole_23 : decode cX7_isHole 23 = .ok (.invokevirtual 52, 3) := by decide +kernel
theorem dX7_isHole_26 : decode cX7_isHole 26 = .ok (.ifCond .eq 7, 3) := by decide +kernel
theorem dX7_isHole_29 : decode cX7_isHole 29 = .ok (.iconst 1, 1) := by decide +kernel
theorem dX7_isHole_30 : decode cX7_isHole 30 = .ok (.goto 4, 3) := by decide +kernel
theorem dX7_isHole_33 : decode cX7_isHole 33 = .ok (.iconst 0, 1) := by decide +kernel
theorem dX7_isHole_34 : decode cX7_isHole 34 = .ok (.ireturn, 1) := by decide +kernel
set_option maxRecDepth 20000 in
theorem ggX7_holes_X7_isHole : GoodIn wsX7_holes wsX7_isHole := goodIn_r _ [5, 6, 7, 8, 4, 9, 10, 11, 12, 13, 14, 15, 16, 17, 18, 19, 20, 21, 22, 23, 24, 25, 26, 27, 28] (by decide +kernel) (by decide +kernel)
set_option maxRecDepth 20000 in
theorem gX7_holes_X7_isHole : GoodIn wsX7_holes (wsV RX7 56 RX7 yX7_isHole wsX7_isHole) := goodIn_app (goodIn_of _ (by decide +kernel)) ggX7_holes_X7_isHole
theorem dX7_holes_0 : decode cX7_holes 0 = .ok (.iconst 0, 1) := by decide +kernel
theorem dX7_holes_1 : decode cX7_holes 1 = .ok (.istore_n 1, 1) := by decide +kernel
theorem dX7_holes_2 : decode cX7_holes 2 = .ok (.iconst 0, 1) := by decide +kernel
theorem dX7_holes_3 : decode cX7_holes 3 = .ok (.istore_n 2, 1) := by decide +kernel
theorem dX7_holes_4 : decode cX7_holes 4 = .ok (.iload_n 2, 1) := by decide +kernel
theorem dX7_holes_5 : decode cX7_holes 5 = .ok (.bipush 16, 2) := by decide +kernel
theorem dX7_holes_7 : decode cX7_holes 7 = .ok (.if_icmp .ge 20, 3) := by decide +kernel
theorem dX7_holes_10 : decode cX7_holes 10 = .ok (.aload_n 0, 1) := by decide +kernel
theorem dX7_holes_11 : decode cX7_holes 11 = .ok (.iload_n 2, 1) := by decide +kernel
theorem dX7_holes_12 : decode cX7_holes 12 = .ok (.invokevirtual 56, 3) := by decide +kernel
theorem dX7_holes_15 : decode cX7_holes 15 = .ok (.ifCond .eq 6, 3) := by decide +kernel
theorem dX7_holes_18 : decode cX7_holes 18 = .ok (.iinc 1 1, 3) := by decide +kernel
theorem dX7_holes_21 : decode cX7_holes 21 = .ok (.iinc 2 1, 3) := by decide +kernel
theorem dX7_holes_24 : decode cX7_holes 24 = .ok (.goto (-20), 3) := by decide +kernel
theorem dX7_holes_27 : decode cX7_holes 27 = .ok (.iload_n 1, 1) := by decide +kernel
theorem dX7_holes_28 : decode cX7_holes 28 = .ok (.ireturn, 1) := by decide +kernel
set_option maxRecDepth 20000 in
theorem ggX8_init_X4_init : GoodIn wsX8_init wsX4_init := goodIn_r _ [35, 36, 2, 3, 37, 38, 39, 40, 41, 18, 19, 42, 43, 44, 45, 46, 47, 48, 49, 50, 51, 52, 53, 134, 135, 94, 95, 96, 114] (by decide +kernel) (by decide +kernel)
set_option maxRecDepth 20000 in
theorem gX8_init_X4_init_n9 : GoodIn wsX8_init (wsX4_init) := ggX8_init_X4_init
set_option maxRecDepth 20000 in
theorem ggX8_init_X2_init : GoodIn wsX8_init wsX2_init := goodIn_r _ [56, 57, 2, 3, 58, 59, 5, 6, 34, 35, 36, 37, 38, 39, 40, 41, 18, 19, 42, 43, 44, 45, 46, 47, 48, 49, 50, 51, 52, 53, 106, 107, 108, 94, 95, 96, 134, 135, 114] (by decide +kernel) (by decide +kernel)
set_option maxRecDepth 20000 in
theorem gX8_init_X2_init : GoodIn wsX8_init (wsX2_init) := ggX8_init_X2_init
set_option maxRecDepth 20000 in
theorem ggX8_init_X0_init : GoodIn wsX8_init wsX0_init := goodIn_r _ [61, 62, 2, 3, 63, 64, 65, 38, 39, 66, 45, 46, 47, 43, 48, 109, 110, 111, 112, 113, 134, 135] (by decide +kernel) (by decide +kernel)
set_option maxRecDepth 20000 in
theorem gX8_init_X0_init_n28 : GoodIn wsX8_init (wsX0_init) := ggX8_init_X0_init
set_option maxRecDepth 20000 in
theorem ggX8_init_X7_init : GoodIn wsX8_init wsX7_init := goodIn_r _ [51, 52, 2, 3, 43, 53, 114] (by decide +kernel) (by decide +kernel)
set_option maxRecDepth 20000 in
theorem gX8_init_X7_init : GoodIn wsX8_init (wsX7_init) := ggX8_init_X7_init
set_option maxRecDepth 20000 in
theorem ggX8_init_X3_init : GoodIn wsX8_init wsX3_init := goodIn_r _ [69, 70, 2, 3, 71, 38, 39, 72, 43, 73, 74, 75, 76, 77, 78, 45, 46, 47, 48, 134, 135, 115, 116, 117, 118, 119, 120, 121, 122, 123, 124] (by decide +kernel) (by decide +kernel)
set_option maxRecDepth 20000 in
theorem gX8_init_X3_init_n42 : GoodIn wsX8_init (wsX3_init) := ggX8_init_X3_init
set_option maxRecDepth 20000 in
theorem ggX8_init_X5_init : GoodIn wsX8_init wsX5_init := goodIn_r _ [80, 81, 2, 3, 43, 82, 83, 84, 85, 86, 87, 125, 126, 127, 128, 129, 130, 131] (by decide +kernel) (by decide +kernel)
set_option maxRecDepth 20000 in
theorem gX8_init_X5_init_n49 : GoodIn wsX8_init (wsX5_init) := ggX8_init_X5_init
set_option maxRecDepth 20000 in
theorem ggX8_init_X6_init : GoodIn wsX8_init wsX6_init := goodIn_r _ [89, 90, 2, 3, 91, 92, 43, 93, 132, 133] (by decide +kernel) (by decide +kernel)
set_option maxRecDepth 20000 in
theorem gX8_init_X6_init_n56 : GoodIn wsX8_init (wsX6_init) := ggX8_init_X6_init
theorem dX8_init_0 : decode cX8_init 0 = .ok (.aload_n 0, 1) := by decide +kernel
theorem dX8_init_1 : decode cX8_init 1 = .ok (.invokespecial 1, 3) := by decide +kernel
theorem dX8_init_4 : decode cX8_init 4 = .ok (.aload_n 0, 1) := by decide +kernel
theorem dX8_init_5 : decode cX8_init 5 = .ok (.new 7, 3) := by decide +kernel
theorem dX8_init_8 : decode cX8_init 8 = .ok (.dup, 1) := by decide +kernel
theorem dX8_init_9 : decode cX8_init 9 = .ok (.invokespecial 9, 3) := by decide +kernel
theorem dX8_init_12 : decode cX8_init 12 = .ok (.putfield 10, 3) := by decide +kernel
theorem dX8_init_15 : decode cX8_init 15 = .ok (.aload_n 0, 1) := by decide +kernel
theorem dX8_init_16 : decode cX8_init 16 = .ok (.new 7, 3) := by decide +kernel
theorem dX8_init_19 : decode cX8_init 19 = .ok (.dup, 1) := by decide +kernel
theorem dX8_init_20 : decode cX8_init 20 = .ok (.invokespecial 9, 3) := by decide +kernel
theorem dX8_init_23 : decode cX8_init 23 = .ok (.putfield 16, 3) := by decide +kernel
theorem dX8_init_26 : decode cX8_init 26 = .ok (.aload_n 0, 1) := by decide +kernel
theorem dX8_init_27 : decode cX8_init 27 = .ok (.new 19, 3) := by decide +kernel
theorem dX8_init_30 : decode cX8_init 30 = .ok (.dup, 1) := by decide +kernel
theorem dX8_init_31 : decode cX8_init 31 = .ok (.invokespecial 21, 3) := by decide +kernel
theorem dX8_init_34 : decode cX8_init 34 = .ok (.putfield 22, 3) := by decide +kernel
theorem dX8_init_37 : decode cX8_init 37 = .ok (.aload_n 0, 1) := by decide +kernel
theorem dX8_init_38 : decode cX8_init 38 = .ok (.new 26, 3) := by decide +kernel
theorem dX8_init_41 : decode cX8_init 41 = .ok (.dup, 1) := by decide +kernel
theorem dX8_init_42 : decode cX8_init 42 = .ok (.invokespecial 28, 3) := by decide +kernel
theorem dX8_init_45 : decode cX8_init 45 = .ok (.putfield 29, 3) := by decide +kernel
theorem dX8_init_48 : decode cX8_init 48 = .ok (.aload_n 0, 1) := by decide +kernel
theorem dX8_init_49 : decode cX8_init 49 = .ok (.new 33, 3) := by decide +kernel
theorem dX8_init_52 : decode cX8_init 52 = .ok (.dup, 1) := by decide +kernel
theorem dX8_init_53 : decode cX8_init 53 = .ok (.invokespecial 35, 3) := by decide +kernel
theorem dX8_init_56 : decode cX8_init 56 = .ok (.putfield 36, 3) := by decide +kernel
theorem dX8_init_59 : decode cX8_init 59 = .ok (.aload_n 0, 1) := by decide +kernel
theorem dX8_init_60 : decode cX8_init 60 = .ok (.new 40, 3) := by decide +kernel
theorem dX8_init_63 : decode cX8_init 63 = .ok (.dup, 1) := by decide +kernel
theorem dX8_init_64 : decode cX8_init 64 = .ok (.invokespecial 42, 3) := by decide +kernel
theorem dX8_init_67 : decode cX8_init 67 = .ok (.putfield 43, 3) := by decide +kernel
theorem dX8_init_70 : decode cX8_init 70 = .ok (.aload_n 0, 1) := by decide +kernel
theorem dX8_init_71 : decode cX8_init 71 = .ok (.new 47, 3) := by decide +kernel
theorem dX8_init_74 : decode cX8_init 74 = .ok (.dup, 1) := by decide +kernel
theorem dX8_init_75 : decode cX8_init 75 = .ok (.invokespecial 49, 3) := by decide +kernel
theorem dX8_init_78 : decode cX8_init 78 = .ok (.putfield 50, 3) := by decide +kernel
theorem dX8_init_81 : decode cX8_init 81 = .ok (.aload_n 0, 1) := by decide +kernel
theorem dX8_init_82 : decode cX8_init 82 = .ok (.new 54, 3) := by decide +kernel
theorem dX8_init_85 : decode cX8_init 85 = .ok (.dup, 1) := by decide +kernel
theorem dX8_init_86 : decode cX8_init 86 = .ok (.invokespecial 56, 3) := by decide +kernel
theorem dX8_init_89 : decode cX8_init 89 = .ok (.putfield 57, 3) := by decide +kernel
theorem dX8_init_92 : decode cX8_init 92 = .ok (.aload_n 0, 1) := by decide +kernel
theorem dX8_init_93 : decode cX8_init 93 = .ok (.iconst 0, 1) := by decide +kernel
theorem dX8_init_94 : decode cX8_init 94 = .ok (.putfield 61, 3) := by decide +kernel
theorem dX8_init_97 : decode cX8_init 97 = .ok (.return_, 1) := by decide +kernel
set_option maxRecDepth 20000 in
theorem ggX8_add_X8_isThread : GoodIn wsX8_add wsX8_isThread := goodIn_r _ [6] (by decide +kernel) (by decide +kernel)
set_option maxRecDepth 20000 in
theorem gX8_add_X8_isThread : GoodIn wsX8_add (va_wsS RX8 65 yX8_isThread wsX8_isThread) := goodIn_app (goodIn_of _ (by decide +kernel)) ggX8_add_X8_isThread
set_option maxRecDepth 20000 in
theorem ggX8_add_X8_mayBe : GoodIn wsX8_add wsX8_mayBe := goodIn_r _ [9, 10, 11] (by decide +kernel) (by decide +kernel)
set_option maxRecDepth 20000 in
theorem gX8_add_X8_mayBe : GoodIn wsX8_add (va_wsS RX8 69 yX8_mayBe wsX8_mayBe) := goodIn_app (goodIn_of _ (by decide +kernel)) ggX8_add_X8_mayBe
set_option maxRecDepth 20000 in
theorem ggX8_add_X1_hasRoomFor : GoodIn wsX8_add wsX1_hasRoomFor := goodIn_r _ [16, 17, 84, 85] (by decide +kernel) (by decide +kernel)
set_option maxRecDepth 20000 in
theorem gX8_add_X1_hasRoomFor : GoodIn wsX8_add (wsV RX8 77 RX1 yX1_hasRoomFor wsX1_hasRoomFor) := goodIn_app (goodIn_of _ (by decide +kernel)) ggX8_add_X1_hasRoomFor
set_option maxRecDepth 20000 in
theorem ggX8_add_X2_record : GoodIn wsX8_add wsX2_record := goodIn_r _ [22, 23, 24, 25, 26, 27, 21, 28, 29, 30, 31, 32, 33, 34, 35, 36, 37, 38, 39, 40, 41, 42, 43, 44, 15, 45, 46, 47, 17, 48, 49, 50, 51, 52, 53, 54, 86, 87, 88, 81, 82, 83, 84, 85, 89] (by decide +kernel) (by decide +kernel)
set_option maxRecDepth 20000 in
theorem gX8_add_X2_record : GoodIn wsX8_add (wsV RX8 82 RX2 yX2_record wsX2_record) := goodIn_app (goodIn_of _ (by decide +kernel)) ggX8_add_X2_record
set_option maxRecDepth 20000 in
theorem ggX8_add_X1_append : GoodIn wsX8_add wsX1_append := goodIn_r _ [58, 17, 59, 13, 14, 15, 16, 60, 61, 62, 63, 46, 64, 65, 66, 67, 84, 85] (by decide +kernel) (by decide +kernel)
set_option maxRecDepth 20000 in
theorem gX8_add_X1_append : GoodIn wsX8_add (wsV RX8 86 RX1 yX1_append wsX1_append) := goodIn_app (goodIn_of _ (by decide +kernel)) ggX8_add_X1_append
set_option maxRecDepth 20000 in
theorem ggX8_add_X1_size : GoodIn wsX8_add wsX1_size := goodIn_r _ [71, 17, 84, 85] (by decide +kernel) (by decide +kernel)
set_option maxRecDepth 20000 in
theorem gX8_add_X1_size : GoodIn wsX8_add (wsV RX8 90 RX1 yX1_size wsX1_size) := goodIn_app (goodIn_of _ (by decide +kernel)) ggX8_add_X1_size
theorem dX8_add_0 : decode cX8_add 0 = .ok (.iload_n 1, 1) := by decide +kernel
theorem dX8_add_1 : decode cX8_add 1 = .ok (.invokestatic 65, 3) := by decide +kernel
theorem dX8_add_4 : decode cX8_add 4 = .ok (.ifCond .ne 5, 3) := by decide +kernel
theorem dX8_add_7 : decode cX8_add 7 = .ok (.iconst (-1), 1) := by decide +kernel
theorem dX8_add_8 : decode cX8_add 8 = .ok (.ireturn, 1) := by decide +kernel
theorem dX8_add_9 : decode cX8_add 9 = .ok (.iconst 1, 1) := by decide +kernel
theorem dX8_add_10 : decode cX8_add 10 = .ok (.iload_n 2, 1) := by decide +kernel
theorem dX8_add_11 : decode cX8_add 11 = .ok (.invokestatic 69, 3) := by decide +kernel
theorem dX8_add_14 : decode cX8_add 14 = .ok (.ifCond .eq 20, 3) := by decide +kernel
theorem dX8_add_17 : decode cX8_add 17 = .ok (.iconst 2, 1) := by decide +kernel
theorem dX8_add_18 : decode cX8_add 18 = .ok (.iload_n 3, 1) := by decide +kernel
theorem dX8_add_19 : decode cX8_add 19 = .ok (.invokestatic 69, 3) := by decide +kernel
theorem dX8_add_22 : decode cX8_add 22 = .ok (.ifCond .eq 12, 3) := by decide +kernel
theorem dX8_add_25 : decode cX8_add 25 = .ok (.iconst 3, 1) := by decide +kernel
theorem dX8_add_26 : decode cX8_add 26 = .ok (.iload 4, 2) := by decide +kernel
theorem dX8_add_28 : decode cX8_add 28 = .ok (.invokestatic 69, 3) := by decide +kernel
theorem dX8_add_31 : decode cX8_add 31 = .ok (.ifCond .ne 6, 3) := by decide +kernel
theorem dX8_add_34 : decode cX8_add 34 = .ok (.bipush (-2), 2) := by decide +kernel
theorem dX8_add_36 : decode cX8_add 36 = .ok (.ireturn, 1) := by decide +kernel
theorem dX8_add_37 : decode cX8_add 37 = .ok (.aload_n 0, 1) := by decide +kernel
theorem dX8_add_38 : decode cX8_add 38 = .ok (.getfield 10, 3) := by decide +kernel
theorem dX8_add_41 : decode cX8_add 41 = .ok (.getfield 73, 3) := by decide +kernel
theorem dX8_add_44 : decode cX8_add 44 = .ok (.iconst 1, 1) := by decide +kernel
theorem dX8_add_45 : decode cX8_add 45 = .ok (.invokevirtual 77, 3) := by decide +kernel
theorem dX8_add_48 : decode cX8_add 48 = .ok (.ifCond .ne 6, 3) := by decide +kernel
theorem dX8_add_51 : decode cX8_add 51 = .ok (.bipush (-3), 2) := by decide +kernel
theorem dX8_add_53 : decode cX8_add 53 = .ok (.ireturn, 1) := by decide +kernel
theorem dX8_add_54 : decode cX8_add 54 = .ok (.aload_n 0, 1) := by decide +kernel
theorem dX8_add_55 : decode cX8_add 55 = .ok (.getfield 22, 3) := by decide +kernel
theorem dX8_add_58 : decode cX8_add 58 = .ok (.aload_n 0, 1) := by decide +kernel
theorem dX8_add_59 : decode cX8_add 59 = .ok (.getfield 10, 3) := by decide +kernel
theorem dX8_add_62 : decode cX8_add 62 = .ok (.invokevirtual 82, 3) := by decide +kernel
theorem dX8_add_65 : decode cX8_add 65 = .ok (.aload_n 0, 1) := by decide +kernel
theorem dX8_add_66 : decode cX8_add 66 = .ok (.getfield 10, 3) := by decide +kernel
theorem dX8_add_69 : decode cX8_add 69 = .ok (.getfield 73, 3) := by decide +kernel
theorem dX8_add_72 : decode cX8_add 72 = .ok (.iload_n 1, 1) := by decide +kernel
theorem dX8_add_73 : decode cX8_add 73 = .ok (.iload_n 2, 1) := by decide +kernel
theorem dX8_add_74 : decode cX8_add 74 = .ok (.iload_n 3, 1) := by decide +kernel
theorem dX8_add_75 : decode cX8_add 75 = .ok (.iload 4, 2) := by decide +kernel
theorem dX8_add_77 : decode cX8_add 77 = .ok (.iconst 0, 1) := by decide +kernel
theorem dX8_add_78 : decode cX8_add 78 = .ok (.invokevirtual 86, 3) := by decide +kernel
theorem dX8_add_81 : decode cX8_add 81 = .ok (.aload_n 0, 1) := by decide +kernel
theorem dX8_add_82 : decode cX8_add 82 = .ok (.getfield 10, 3) := by decide +kernel
theorem dX8_add_85 : decode cX8_add 85 = .ok (.getfield 73, 3) := by decide +kernel
theorem dX8_add_88 : decode cX8_add 88 = .ok (.invokevirtual 90, 3) := by decide +kernel
theorem dX8_add_91 : decode cX8_add 91 = .ok (.iconst 1, 1) := by decide +kernel
theorem dX8_add_92 : decode cX8_add 92 = .ok (.isub, 1) := by decide +kernel
theorem dX8_add_93 : decode cX8_add 93 = .ok (.ireturn, 1) := by decide +kernel
set_option maxRecDepth 20000 in
theorem ggX8_addAll_X0_read : GoodIn wsX8_addAll wsX0_read := goodIn_r _ [8, 9, 10, 11, 12, 13, 14, 15, 16, 17, 18, 19, 20, 21, 7, 22, 23, 24, 25, 26, 27, 28, 29, 30, 31, 32, 33, 34, 35, 36, 37, 38, 39, 40, 41, 42, 43, 44, 45, 46, 47, 48, 49, 50, 51, 52, 53, 54, 55, 56, 57, 58, 59, 60, 61, 62, 63, 64, 65, 66, 67, 133, 134, 135, 136, 137, 138, 139] (by decide +kernel) (by decide +kernel)
set_option maxRecDepth 20000 in
theorem gX8_addAll_X0_read : GoodIn wsX8_addAll (wsV RX8 94 RX0 yX0_read wsX0_read) := goodIn_app (goodIn_of _ (by decide +kernel)) ggX8_addAll_X0_read
set_option maxRecDepth 20000 in
theorem ggX8_addAll_X0_cardsRead : GoodIn wsX8_addAll wsX0_cardsRead := goodIn_r _ [71, 9, 133, 134, 135, 136, 137] (by decide +kernel) (by decide +kernel)
set_option maxRecDepth 20000 in
theorem gX8_addAll_X0_cardsRead : GoodIn wsX8_addAll (wsV RX8 97 RX0 yX0_cardsRead wsX0_cardsRead) := goodIn_app (goodIn_of _ (by decide +kernel)) ggX8_addAll_X0_cardsRead
set_option maxRecDepth 20000 in
theorem ggX8_addAll_X1_size : GoodIn wsX8_addAll wsX1_size := goodIn_r _ [75, 18, 138, 139] (by decide +kernel) (by decide +kernel)
set_option maxRecDepth 20000 in
theorem gX8_addAll_X1_size : GoodIn wsX8_addAll (wsV RX8 90 RX1 yX1_size wsX1_size) := goodIn_app (goodIn_of _ (by decide +kernel)) ggX8_addAll_X1_size
set_option maxRecDepth 20000 in
theorem ggX8_addAll_X1_hasRoomFor : GoodIn wsX8_addAll wsX1_hasRoomFor := goodIn_r _ [58, 18, 138, 139] (by decide +kernel) (by decide +kernel)
set_option maxRecDepth 20000 in
theorem gX8_addAll_X1_hasRoomFor : GoodIn wsX8_addAll (wsV RX8 77 RX1 yX1_hasRoomFor wsX1_hasRoomFor) := goodIn_app (goodIn_of _ (by decide +kernel)) ggX8_addAll_X1_hasRoomFor
set_option maxRecDepth 20000 in
theorem ggX8_addAll_X2_record : GoodIn wsX8_addAll wsX2_record := goodIn_r _ [81, 82, 83, 84, 85, 86, 80, 87, 88, 89, 90, 91, 92, 93, 94, 95, 96, 97, 98, 99, 100, 101, 102, 103, 16, 104, 63, 105, 18, 106, 107, 108, 109, 110, 111, 112, 140, 141, 142, 130, 131, 132, 138, 139, 143] (by decide +kernel) (by decide +kernel)
set_option maxRecDepth 20000 in
theorem gX8_addAll_X2_record : GoodIn wsX8_addAll (wsV RX8 82 RX2 yX2_record wsX2_record) := goodIn_app (goodIn_of _ (by decide +kernel)) ggX8_addAll_X2_record
set_option maxRecDepth 20000 in
theorem ggX8_addAll_X1_appendFrom : GoodIn wsX8_addAll wsX1_appendFrom := goodIn_r _ [116, 18, 55, 56, 57, 16, 58, 117, 118, 119, 120, 63, 64, 65, 66, 67, 59, 60, 61, 62, 138, 139] (by decide +kernel) (by decide +kernel)
set_option maxRecDepth 20000 in
theorem gX8_addAll_X1_appendFrom : GoodIn wsX8_addAll (wsV RX8 101 RX1 yX1_appendFrom wsX1_appendFrom) := goodIn_app (goodIn_of _ (by decide +kernel)) ggX8_addAll_X1_appendFrom
theorem dX8_addAll_0 : decode cX8_addAll 0 = .ok (.aload_n 0, 1) := by decide +kernel
theorem dX8_addAll_1 : decode cX8_addAll 1 = .ok (.getfield 29, 3) := by decide +kernel
theorem dX8_addAll_4 : decode cX8_addAll 4 = .ok (.invokevirtual 94, 3) := by decide +kernel
theorem dX8_addAll_7 : decode cX8_addAll 7 = .ok (.istore_n 1, 1) := by decide +kernel
theorem dX8_addAll_8 : decode cX8_addAll 8 = .ok (.iload_n 1, 1) := by decide +kernel
theorem dX8_addAll_9 : decode cX8_addAll 9 = .ok (.bipush (-5), 2) := by decide +kernel
theorem dX8_addAll_11 : decode cX8_addAll 11 = .ok (.if_icmp .eq 8, 3) := by decide +kernel
theorem dX8_addAll_14 : decode cX8_addAll 14 = .ok (.bipush (-100), 2) := by decide +kernel
theorem dX8_addAll_16 : decode cX8_addAll 16 = .ok (.iload_n 1, 1) := by decide +kernel
theorem dX8_addAll_17 : decode cX8_addAll 17 = .ok (.isub, 1) := by decide +kernel
theorem dX8_addAll_18 : decode cX8_addAll 18 = .ok (.ireturn, 1) := by decide +kernel
theorem dX8_addAll_19 : decode cX8_addAll 19 = .ok (.aload_n 0, 1) := by decide +kernel
theorem dX8_addAll_20 : decode cX8_addAll 20 = .ok (.getfield 29, 3) := by decide +kernel
theorem dX8_addAll_23 : decode cX8_addAll 23 = .ok (.invokevirtual 97, 3) := by decide +kernel
theorem dX8_addAll_26 : decode cX8_addAll 26 = .ok (.astore_n 2, 1) := by decide +kernel
theorem dX8_addAll_27 : decode cX8_addAll 27 = .ok (.aload_n 0, 1) := by decide +kernel
theorem dX8_addAll_28 : decode cX8_addAll 28 = .ok (.getfield 10, 3) := by decide +kernel
theorem dX8_addAll_31 : decode cX8_addAll 31 = .ok (.getfield 73, 3) := by decide +kernel
theorem dX8_addAll_34 : decode cX8_addAll 34 = .ok (.aload_n 2, 1) := by decide +kernel
theorem dX8_addAll_35 : decode cX8_addAll 35 = .ok (.invokevirtual 90, 3) := by decide +kernel
theorem dX8_addAll_38 : decode cX8_addAll 38 = .ok (.invokevirtual 77, 3) := by decide +kernel
theorem dX8_addAll_41 : decode cX8_addAll 41 = .ok (.ifCond .ne 6, 3) := by decide +kernel
theorem dX8_addAll_44 : decode cX8_addAll 44 = .ok (.bipush (-3), 2) := by decide +kernel
theorem dX8_addAll_46 : decode cX8_addAll 46 = .ok (.ireturn, 1) := by decide +kernel
theorem dX8_addAll_47 : decode cX8_addAll 47 = .ok (.aload_n 0, 1) := by decide +kernel
theorem dX8_addAll_48 : decode cX8_addAll 48 = .ok (.getfield 22, 3) := by decide +kernel
theorem dX8_addAll_51 : decode cX8_addAll 51 = .ok (.aload_n 0, 1) := by decide +kernel
theorem dX8_addAll_52 : decode cX8_addAll 52 = .ok (.getfield 10, 3) := by decide +kernel
