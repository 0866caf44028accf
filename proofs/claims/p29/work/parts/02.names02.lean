theorem dX1_append_8 : decode cX1_append 8 = .ok (.return_, 1) := by decide +kernel
theorem dX1_append_9 : decode cX1_append 9 = .ok (.aload_n 0, 1) := by decide +kernel
theorem dX1_append_10 : decode cX1_append 10 = .ok (.getfield 15, 3) := by decide +kernel
theorem dX1_append_13 : decode cX1_append 13 = .ok (.istore 6, 2) := by decide +kernel
theorem dX1_append_15 : decode cX1_append 15 = .ok (.aload_n 0, 1) := by decide +kernel
theorem dX1_append_16 : decode cX1_append 16 = .ok (.dup, 1) := by decide +kernel
theorem dX1_append_17 : decode cX1_append 17 = .ok (.getfield 15, 3) := by decide +kernel
theorem dX1_append_20 : decode cX1_append 20 = .ok (.iconst 1, 1) := by decide +kernel
theorem dX1_append_21 : decode cX1_append 21 = .ok (.iadd, 1) := by decide +kernel
theorem dX1_append_22 : decode cX1_append 22 = .ok (.putfield 15, 3) := by decide +kernel
theorem dX1_append_25 : decode cX1_append 25 = .ok (.aload_n 0, 1) := by decide +kernel
theorem dX1_append_26 : decode cX1_append 26 = .ok (.iload 6, 2) := by decide +kernel
theorem dX1_append_28 : decode cX1_append 28 = .ok (.iconst 0, 1) := by decide +kernel
theorem dX1_append_29 : decode cX1_append 29 = .ok (.iload_n 1, 1) := by decide +kernel
theorem dX1_append_30 : decode cX1_append 30 = .ok (.invokevirtual 33, 3) := by decide +kernel
theorem dX1_append_33 : decode cX1_append 33 = .ok (.aload_n 0, 1) := by decide +kernel
theorem dX1_append_34 : decode cX1_append 34 = .ok (.iload 6, 2) := by decide +kernel
theorem dX1_append_36 : decode cX1_append 36 = .ok (.iconst 1, 1) := by decide +kernel
theorem dX1_append_37 : decode cX1_append 37 = .ok (.iload_n 2, 1) := by decide +kernel
theorem dX1_append_38 : decode cX1_append 38 = .ok (.invokevirtual 33, 3) := by decide +kernel
theorem dX1_append_41 : decode cX1_append 41 = .ok (.aload_n 0, 1) := by decide +kernel
theorem dX1_append_42 : decode cX1_append 42 = .ok (.iload 6, 2) := by decide +kernel
theorem dX1_append_44 : decode cX1_append 44 = .ok (.iconst 2, 1) := by decide +kernel
theorem dX1_append_45 : decode cX1_append 45 = .ok (.iload_n 3, 1) := by decide +kernel
theorem dX1_append_46 : decode cX1_append 46 = .ok (.invokevirtual 33, 3) := by decide +kernel
theorem dX1_append_49 : decode cX1_append 49 = .ok (.aload_n 0, 1) := by decide +kernel
theorem dX1_append_50 : decode cX1_append 50 = .ok (.iload 6, 2) := by decide +kernel
theorem dX1_append_52 : decode cX1_append 52 = .ok (.iconst 3, 1) := by decide +kernel
theorem dX1_append_53 : decode cX1_append 53 = .ok (.iload 4, 2) := by decide +kernel
theorem dX1_append_55 : decode cX1_append 55 = .ok (.invokevirtual 33, 3) := by decide +kernel
theorem dX1_append_58 : decode cX1_append 58 = .ok (.aload_n 0, 1) := by decide +kernel
theorem dX1_append_59 : decode cX1_append 59 = .ok (.iload 6, 2) := by decide +kernel
theorem dX1_append_61 : decode cX1_append 61 = .ok (.iconst 4, 1) := by decide +kernel
theorem dX1_append_62 : decode cX1_append 62 = .ok (.iload 5, 2) := by decide +kernel
theorem dX1_append_64 : decode cX1_append 64 = .ok (.invokevirtual 33, 3) := by decide +kernel
theorem dX1_append_67 : decode cX1_append 67 = .ok (.return_, 1) := by decide +kernel
set_option maxRecDepth 20000 in
theorem ggX1_appendFrom_X1_hasRoomFor : GoodIn wsX1_appendFrom wsX1_hasRoomFor := goodIn_r _ [6, 1, 20, 21] (by decide +kernel) (by decide +kernel)
set_option maxRecDepth 20000 in
theorem gX1_appendFrom_X1_hasRoomFor : GoodIn wsX1_appendFrom (wsV RX1 29 RX1 yX1_hasRoomFor wsX1_hasRoomFor) := goodIn_app (goodIn_of _ (by decide +kernel)) ggX1_appendFrom_X1_hasRoomFor
set_option maxRecDepth 20000 in
theorem ggX1_appendFrom_X1_number : GoodIn wsX1_appendFrom wsX1_number := goodIn_r _ [10, 11, 12, 13, 14, 5, 15, 1, 20, 21] (by decide +kernel) (by decide +kernel)
set_option maxRecDepth 20000 in
theorem gX1_appendFrom_X1_number : GoodIn wsX1_appendFrom (wsV RX1 37 RX1 yX1_number wsX1_number) := goodIn_app (goodIn_of _ (by decide +kernel)) ggX1_appendFrom_X1_number
set_option maxRecDepth 20000 in
theorem ggX1_appendFrom_X1_put : GoodIn wsX1_appendFrom wsX1_put := goodIn_r _ [19, 11, 12, 13, 14, 5, 15, 1, 20, 21] (by decide +kernel) (by decide +kernel)
set_option maxRecDepth 20000 in
theorem gX1_appendFrom_X1_put : GoodIn wsX1_appendFrom (wsV RX1 33 RX1 yX1_put wsX1_put) := goodIn_app (goodIn_of _ (by decide +kernel)) ggX1_appendFrom_X1_put
theorem dX1_appendFrom_0 : decode cX1_appendFrom 0 = .ok (.aload_n 0, 1) := by decide +kernel
theorem dX1_appendFrom_1 : decode cX1_appendFrom 1 = .ok (.iconst 1, 1) := by decide +kernel
theorem dX1_appendFrom_2 : decode cX1_appendFrom 2 = .ok (.invokevirtual 29, 3) := by decide +kernel
theorem dX1_appendFrom_5 : decode cX1_appendFrom 5 = .ok (.ifCond .ne 4, 3) := by decide +kernel
theorem dX1_appendFrom_8 : decode cX1_appendFrom 8 = .ok (.return_, 1) := by decide +kernel
theorem dX1_appendFrom_9 : decode cX1_appendFrom 9 = .ok (.aload_n 0, 1) := by decide +kernel
theorem dX1_appendFrom_10 : decode cX1_appendFrom 10 = .ok (.getfield 15, 3) := by decide +kernel
theorem dX1_appendFrom_13 : decode cX1_appendFrom 13 = .ok (.istore_n 3, 1) := by decide +kernel
theorem dX1_appendFrom_14 : decode cX1_appendFrom 14 = .ok (.aload_n 0, 1) := by decide +kernel
theorem dX1_appendFrom_15 : decode cX1_appendFrom 15 = .ok (.dup, 1) := by decide +kernel
theorem dX1_appendFrom_16 : decode cX1_appendFrom 16 = .ok (.getfield 15, 3) := by decide +kernel
theorem dX1_appendFrom_19 : decode cX1_appendFrom 19 = .ok (.iconst 1, 1) := by decide +kernel
theorem dX1_appendFrom_20 : decode cX1_appendFrom 20 = .ok (.iadd, 1) := by decide +kernel
theorem dX1_appendFrom_21 : decode cX1_appendFrom 21 = .ok (.putfield 15, 3) := by decide +kernel
theorem dX1_appendFrom_24 : decode cX1_appendFrom 24 = .ok (.iconst 0, 1) := by decide +kernel
theorem dX1_appendFrom_25 : decode cX1_appendFrom 25 = .ok (.istore 4, 2) := by decide +kernel
theorem dX1_appendFrom_27 : decode cX1_appendFrom 27 = .ok (.iload 4, 2) := by decide +kernel
theorem dX1_appendFrom_29 : decode cX1_appendFrom 29 = .ok (.iconst 5, 1) := by decide +kernel
theorem dX1_appendFrom_30 : decode cX1_appendFrom 30 = .ok (.if_icmp .ge 23, 3) := by decide +kernel
theorem dX1_appendFrom_33 : decode cX1_appendFrom 33 = .ok (.aload_n 0, 1) := by decide +kernel
theorem dX1_appendFrom_34 : decode cX1_appendFrom 34 = .ok (.iload_n 3, 1) := by decide +kernel
theorem dX1_appendFrom_35 : decode cX1_appendFrom 35 = .ok (.iload 4, 2) := by decide +kernel
theorem dX1_appendFrom_37 : decode cX1_appendFrom 37 = .ok (.aload_n 1, 1) := by decide +kernel
theorem dX1_appendFrom_38 : decode cX1_appendFrom 38 = .ok (.iload_n 2, 1) := by decide +kernel
theorem dX1_appendFrom_39 : decode cX1_appendFrom 39 = .ok (.iload 4, 2) := by decide +kernel
theorem dX1_appendFrom_41 : decode cX1_appendFrom 41 = .ok (.invokevirtual 37, 3) := by decide +kernel
theorem dX1_appendFrom_44 : decode cX1_appendFrom 44 = .ok (.invokevirtual 33, 3) := by decide +kernel
theorem dX1_appendFrom_47 : decode cX1_appendFrom 47 = .ok (.iinc 4 1, 3) := by decide +kernel
theorem dX1_appendFrom_50 : decode cX1_appendFrom 50 = .ok (.goto (-23), 3) := by decide +kernel
theorem dX1_appendFrom_53 : decode cX1_appendFrom 53 = .ok (.return_, 1) := by decide +kernel
set_option maxRecDepth 20000 in
theorem ggX1_ofThread_X1_number : GoodIn wsX1_ofThread wsX1_number := goodIn_r _ [6, 7, 8, 9, 10, 5, 11, 1, 12, 13] (by decide +kernel) (by decide +kernel)
set_option maxRecDepth 20000 in
theorem gX1_ofThread_X1_number : GoodIn wsX1_ofThread (wsV RX1 37 RX1 yX1_number wsX1_number) := goodIn_app (goodIn_of _ (by decide +kernel)) ggX1_ofThread_X1_number
theorem dX1_ofThread_0 : decode cX1_ofThread 0 = .ok (.iconst 0, 1) := by decide +kernel
theorem dX1_ofThread_1 : decode cX1_ofThread 1 = .ok (.istore_n 2, 1) := by decide +kernel
theorem dX1_ofThread_2 : decode cX1_ofThread 2 = .ok (.iconst 0, 1) := by decide +kernel
theorem dX1_ofThread_3 : decode cX1_ofThread 3 = .ok (.istore_n 3, 1) := by decide +kernel
theorem dX1_ofThread_4 : decode cX1_ofThread 4 = .ok (.iload_n 3, 1) := by decide +kernel
theorem dX1_ofThread_5 : decode cX1_ofThread 5 = .ok (.aload_n 0, 1) := by decide +kernel
theorem dX1_ofThread_6 : decode cX1_ofThread 6 = .ok (.getfield 15, 3) := by decide +kernel
theorem dX1_ofThread_9 : decode cX1_ofThread 9 = .ok (.if_icmp .ge 22, 3) := by decide +kernel
theorem dX1_ofThread_12 : decode cX1_ofThread 12 = .ok (.aload_n 0, 1) := by decide +kernel
theorem dX1_ofThread_13 : decode cX1_ofThread 13 = .ok (.iload_n 3, 1) := by decide +kernel
theorem dX1_ofThread_14 : decode cX1_ofThread 14 = .ok (.iconst 0, 1) := by decide +kernel
theorem dX1_ofThread_15 : decode cX1_ofThread 15 = .ok (.invokevirtual 37, 3) := by decide +kernel
theorem dX1_ofThread_18 : decode cX1_ofThread 18 = .ok (.iload_n 1, 1) := by decide +kernel
theorem dX1_ofThread_19 : decode cX1_ofThread 19 = .ok (.if_icmp .ne 6, 3) := by decide +kernel
theorem dX1_ofThread_22 : decode cX1_ofThread 22 = .ok (.iinc 2 1, 3) := by decide +kernel
theorem dX1_ofThread_25 : decode cX1_ofThread 25 = .ok (.iinc 3 1, 3) := by decide +kernel
theorem dX1_ofThread_28 : decode cX1_ofThread 28 = .ok (.goto (-24), 3) := by decide +kernel
theorem dX1_ofThread_31 : decode cX1_ofThread 31 = .ok (.iload_n 2, 1) := by decide +kernel
theorem dX1_ofThread_32 : decode cX1_ofThread 32 = .ok (.ireturn, 1) := by decide +kernel
set_option maxRecDepth 20000 in
theorem ggX2_init_X4_init : GoodIn wsX2_init wsX4_init := goodIn_r _ [9, 10, 2, 3, 11, 12, 13, 14, 15, 16, 17, 18, 19, 20, 21, 22, 23, 24, 25, 26, 27, 28, 29, 36, 37, 33, 34, 35, 38] (by decide +kernel) (by decide +kernel)
set_option maxRecDepth 20000 in
theorem gX2_init_X4_init_n17 : GoodIn wsX2_init (wsX4_init) := ggX2_init_X4_init
theorem dX2_init_0 : decode cX2_init 0 = .ok (.aload_n 0, 1) := by decide +kernel
theorem dX2_init_1 : decode cX2_init 1 = .ok (.invokespecial 3, 3) := by decide +kernel
theorem dX2_init_4 : decode cX2_init 4 = .ok (.aload_n 0, 1) := by decide +kernel
theorem dX2_init_5 : decode cX2_init 5 = .ok (.iconst 4, 1) := by decide +kernel
theorem dX2_init_6 : decode cX2_init 6 = .ok (.anewarray 9, 3) := by decide +kernel
theorem dX2_init_9 : decode cX2_init 9 = .ok (.putfield 11, 3) := by decide +kernel
theorem dX2_init_12 : decode cX2_init 12 = .ok (.iconst 0, 1) := by decide +kernel
theorem dX2_init_13 : decode cX2_init 13 = .ok (.istore_n 1, 1) := by decide +kernel
theorem dX2_init_14 : decode cX2_init 14 = .ok (.iload_n 1, 1) := by decide +kernel
theorem dX2_init_15 : decode cX2_init 15 = .ok (.aload_n 0, 1) := by decide +kernel
theorem dX2_init_16 : decode cX2_init 16 = .ok (.getfield 11, 3) := by decide +kernel
theorem dX2_init_19 : decode cX2_init 19 = .ok (.arraylength, 1) := by decide +kernel
theorem dX2_init_20 : decode cX2_init 20 = .ok (.if_icmp .ge 22, 3) := by decide +kernel
theorem dX2_init_23 : decode cX2_init 23 = .ok (.aload_n 0, 1) := by decide +kernel
theorem dX2_init_24 : decode cX2_init 24 = .ok (.getfield 11, 3) := by decide +kernel
theorem dX2_init_27 : decode cX2_init 27 = .ok (.iload_n 1, 1) := by decide +kernel
theorem dX2_init_28 : decode cX2_init 28 = .ok (.new 9, 3) := by decide +kernel
theorem dX2_init_31 : decode cX2_init 31 = .ok (.dup, 1) := by decide +kernel
theorem dX2_init_32 : decode cX2_init 32 = .ok (.invokespecial 17, 3) := by decide +kernel
theorem dX2_init_35 : decode cX2_init 35 = .ok (.aastore, 1) := by decide +kernel
theorem dX2_init_36 : decode cX2_init 36 = .ok (.iinc 1 1, 3) := by decide +kernel
theorem dX2_init_39 : decode cX2_init 39 = .ok (.goto (-25), 3) := by decide +kernel
theorem dX2_init_42 : decode cX2_init 42 = .ok (.return_, 1) := by decide +kernel
theorem dX2_size_0 : decode cX2_size 0 = .ok (.aload_n 0, 1) := by decide +kernel
theorem dX2_size_1 : decode cX2_size 1 = .ok (.getfield 18, 3) := by decide +kernel
theorem dX2_size_4 : decode cX2_size 4 = .ok (.ireturn, 1) := by decide +kernel
set_option maxRecDepth 20000 in
theorem ggX2_record_X2_stateAfter : GoodIn wsX2_record wsX2_stateAfter := goodIn_r _ [7, 2, 8, 36, 37, 38] (by decide +kernel) (by decide +kernel)
set_option maxRecDepth 20000 in
theorem gX2_record_X2_stateAfter : GoodIn wsX2_record (wsV RX2 22 RX2 yX2_stateAfter wsX2_stateAfter) := goodIn_app (goodIn_of _ (by decide +kernel)) ggX2_record_X2_stateAfter
set_option maxRecDepth 20000 in
theorem ggX2_record_X4_copyFrom : GoodIn wsX2_record wsX4_copyFrom := goodIn_r _ [13, 14, 15, 16, 17, 18, 19, 20, 21, 22, 23, 24, 25, 26, 27, 28, 29, 30, 31, 32, 33, 34, 35, 39, 40, 41, 42, 43, 44] (by decide +kernel) (by decide +kernel)
set_option maxRecDepth 20000 in
theorem gX2_record_X4_copyFrom : GoodIn wsX2_record (wsV RX2 26 RX4 yX4_copyFrom wsX4_copyFrom) := goodIn_app (goodIn_of _ (by decide +kernel)) ggX2_record_X4_copyFrom
theorem dX2_record_0 : decode cX2_record 0 = .ok (.aload_n 0, 1) := by decide +kernel
theorem dX2_record_1 : decode cX2_record 1 = .ok (.aload_n 0, 1) := by decide +kernel
theorem dX2_record_2 : decode cX2_record 2 = .ok (.getfield 18, 3) := by decide +kernel
theorem dX2_record_5 : decode cX2_record 5 = .ok (.invokevirtual 22, 3) := by decide +kernel
theorem dX2_record_8 : decode cX2_record 8 = .ok (.astore_n 2, 1) := by decide +kernel
theorem dX2_record_9 : decode cX2_record 9 = .ok (.aload_n 2, 1) := by decide +kernel
theorem dX2_record_10 : decode cX2_record 10 = .ok (.ifnonnull 4, 3) := by decide +kernel
theorem dX2_record_13 : decode cX2_record 13 = .ok (.return_, 1) := by decide +kernel
theorem dX2_record_14 : decode cX2_record 14 = .ok (.aload_n 2, 1) := by decide +kernel
theorem dX2_record_15 : decode cX2_record 15 = .ok (.aload_n 1, 1) := by decide +kernel
theorem dX2_record_16 : decode cX2_record 16 = .ok (.invokevirtual 26, 3) := by decide +kernel
theorem dX2_record_19 : decode cX2_record 19 = .ok (.aload_n 0, 1) := by decide +kernel
theorem dX2_record_20 : decode cX2_record 20 = .ok (.getfield 18, 3) := by decide +kernel
theorem dX2_record_23 : decode cX2_record 23 = .ok (.iconst 4, 1) := by decide +kernel
theorem dX2_record_24 : decode cX2_record 24 = .ok (.if_icmp .ge 16, 3) := by decide +kernel
theorem dX2_record_27 : decode cX2_record 27 = .ok (.aload_n 0, 1) := by decide +kernel
theorem dX2_record_28 : decode cX2_record 28 = .ok (.dup, 1) := by decide +kernel
theorem dX2_record_29 : decode cX2_record 29 = .ok (.getfield 18, 3) := by decide +kernel
theorem dX2_record_32 : decode cX2_record 32 = .ok (.iconst 1, 1) := by decide +kernel
theorem dX2_record_33 : decode cX2_record 33 = .ok (.iadd, 1) := by decide +kernel
theorem dX2_record_34 : decode cX2_record 34 = .ok (.putfield 18, 3) := by decide +kernel
theorem dX2_record_37 : decode cX2_record 37 = .ok (.goto 15, 3) := by decide +kernel
theorem dX2_record_40 : decode cX2_record 40 = .ok (.aload_n 0, 1) := by decide +kernel
theorem dX2_record_41 : decode cX2_record 41 = .ok (.aload_n 0, 1) := by decide +kernel
theorem dX2_record_42 : decode cX2_record 42 = .ok (.getfield 30, 3) := by decide +kernel
theorem dX2_record_45 : decode cX2_record 45 = .ok (.iconst 1, 1) := by decide +kernel
theorem dX2_record_46 : decode cX2_record 46 = .ok (.iadd, 1) := by decide +kernel
theorem dX2_record_47 : decode cX2_record 47 = .ok (.iconst 4, 1) := by decide +kernel
theorem dX2_record_48 : decode cX2_record 48 = .ok (.irem, 1) := by decide +kernel
theorem dX2_record_49 : decode cX2_record 49 = .ok (.putfield 30, 3) := by decide +kernel
theorem dX2_record_52 : decode cX2_record 52 = .ok (.return_, 1) := by decide +kernel
set_option maxRecDepth 20000 in
theorem ggX2_takeBack_X2_stateAfter : GoodIn wsX2_takeBack wsX2_stateAfter := goodIn_r _ [6, 7, 8, 36, 37, 38] (by decide +kernel) (by decide +kernel)
set_option maxRecDepth 20000 in
theorem gX2_takeBack_X2_stateAfter : GoodIn wsX2_takeBack (wsV RX2 22 RX2 yX2_stateAfter wsX2_stateAfter) := goodIn_app (goodIn_of _ (by decide +kernel)) ggX2_takeBack_X2_stateAfter
set_option maxRecDepth 20000 in
theorem ggX2_takeBack_X4_copyFrom : GoodIn wsX2_takeBack wsX4_copyFrom := goodIn_r _ [13, 14, 15, 16, 17, 18, 19, 20, 21, 22, 23, 24, 25, 26, 27, 28, 29, 30, 31, 32, 33, 34, 35, 39, 40, 41, 42, 43, 44] (by decide +kernel) (by decide +kernel)
set_option maxRecDepth 20000 in
theorem gX2_takeBack_X4_copyFrom : GoodIn wsX2_takeBack (wsV RX2 26 RX4 yX4_copyFrom wsX4_copyFrom) := goodIn_app (goodIn_of _ (by decide +kernel)) ggX2_takeBack_X4_copyFrom
theorem dX2_takeBack_0 : decode cX2_takeBack 0 = .ok (.aload_n 0, 1) := by decide +kernel
theorem dX2_takeBack_1 : decode cX2_takeBack 1 = .ok (.getfield 18, 3) := by decide +kernel
theorem dX2_takeBack_4 : decode cX2_takeBack 4 = .ok (.ifCond .ne 5, 3) := by decide +kernel
theorem dX2_takeBack_7 : decode cX2_takeBack 7 = .ok (.iconst 0, 1) := by decide +kernel
theorem dX2_takeBack_8 : decode cX2_takeBack 8 = .ok (.ireturn, 1) := by decide +kernel
theorem dX2_takeBack_9 : decode cX2_takeBack 9 = .ok (.aload_n 0, 1) := by decide +kernel
theorem dX2_takeBack_10 : decode cX2_takeBack 10 = .ok (.aload_n 0, 1) := by decide +kernel
theorem dX2_takeBack_11 : decode cX2_takeBack 11 = .ok (.getfield 18, 3) := by decide +kernel
theorem dX2_takeBack_14 : decode cX2_takeBack 14 = .ok (.iconst 1, 1) := by decide +kernel
theorem dX2_takeBack_15 : decode cX2_takeBack 15 = .ok (.isub, 1) := by decide +kernel
theorem dX2_takeBack_16 : decode cX2_takeBack 16 = .ok (.invokevirtual 22, 3) := by decide +kernel
theorem dX2_takeBack_19 : decode cX2_takeBack 19 = .ok (.astore_n 2, 1) := by decide +kernel
theorem dX2_takeBack_20 : decode cX2_takeBack 20 = .ok (.aload_n 2, 1) := by decide +kernel
theorem dX2_takeBack_21 : decode cX2_takeBack 21 = .ok (.ifnonnull 5, 3) := by decide +kernel
theorem dX2_takeBack_24 : decode cX2_takeBack 24 = .ok (.iconst 0, 1) := by decide +kernel
theorem dX2_takeBack_25 : decode cX2_takeBack 25 = .ok (.ireturn, 1) := by decide +kernel
theorem dX2_takeBack_26 : decode cX2_takeBack 26 = .ok (.aload_n 1, 1) := by decide +kernel
theorem dX2_takeBack_27 : decode cX2_takeBack 27 = .ok (.aload_n 2, 1) := by decide +kernel
theorem dX2_takeBack_28 : decode cX2_takeBack 28 = .ok (.invokevirtual 26, 3) := by decide +kernel
theorem dX2_takeBack_31 : decode cX2_takeBack 31 = .ok (.aload_n 0, 1) := by decide +kernel
theorem dX2_takeBack_32 : decode cX2_takeBack 32 = .ok (.dup, 1) := by decide +kernel
theorem dX2_takeBack_33 : decode cX2_takeBack 33 = .ok (.getfield 18, 3) := by decide +kernel
theorem dX2_takeBack_36 : decode cX2_takeBack 36 = .ok (.iconst 1, 1) := by decide +kernel
theorem dX2_takeBack_37 : decode cX2_takeBack 37 = .ok (.isub, 1) := by decide +kernel
theorem dX2_takeBack_38 : decode cX2_takeBack 38 = .ok (.putfield 18, 3) := by decide +kernel
theorem dX2_takeBack_41 : decode cX2_takeBack 41 = .ok (.iconst 1, 1) := by decide +kernel
theorem dX2_takeBack_42 : decode cX2_takeBack 42 = .ok (.ireturn, 1) := by decide +kernel
theorem dX2_stateAfter_0 : decode cX2_stateAfter 0 = .ok (.aload_n 0, 1) := by decide +kernel
theorem dX2_stateAfter_1 : decode cX2_stateAfter 1 = .ok (.getfield 30, 3) := by decide +kernel
theorem dX2_stateAfter_4 : decode cX2_stateAfter 4 = .ok (.iload_n 1, 1) := by decide +kernel
theorem dX2_stateAfter_5 : decode cX2_stateAfter 5 = .ok (.iadd, 1) := by decide +kernel
theorem dX2_stateAfter_6 : decode cX2_stateAfter 6 = .ok (.iconst 4, 1) := by decide +kernel
theorem dX2_stateAfter_7 : decode cX2_stateAfter 7 = .ok (.irem, 1) := by decide +kernel
theorem dX2_stateAfter_8 : decode cX2_stateAfter 8 = .ok (.istore_n 2, 1) := by decide +kernel
theorem dX2_stateAfter_9 : decode cX2_stateAfter 9 = .ok (.iload_n 2, 1) := by decide +kernel
theorem dX2_stateAfter_10 : decode cX2_stateAfter 10 = .ok (.ifCond .lt 21, 3) := by decide +kernel
theorem dX2_stateAfter_13 : decode cX2_stateAfter 13 = .ok (.iload_n 2, 1) := by decide +kernel
theorem dX2_stateAfter_14 : decode cX2_stateAfter 14 = .ok (.aload_n 0, 1) := by decide +kernel
theorem dX2_stateAfter_15 : decode cX2_stateAfter 15 = .ok (.getfield 11, 3) := by decide +kernel
theorem dX2_stateAfter_18 : decode cX2_stateAfter 18 = .ok (.arraylength, 1) := by decide +kernel
theorem dX2_stateAfter_19 : decode cX2_stateAfter 19 = .ok (.if_icmp .ge 12, 3) := by decide +kernel
theorem dX2_stateAfter_22 : decode cX2_stateAfter 22 = .ok (.aload_n 0, 1) := by decide +kernel
theorem dX2_stateAfter_23 : decode cX2_stateAfter 23 = .ok (.getfield 11, 3) := by decide +kernel
theorem dX2_stateAfter_26 : decode cX2_stateAfter 26 = .ok (.iload_n 2, 1) := by decide +kernel
theorem dX2_stateAfter_27 : decode cX2_stateAfter 27 = .ok (.aaload, 1) := by decide +kernel
theorem dX2_stateAfter_28 : decode cX2_stateAfter 28 = .ok (.goto 4, 3) := by decide +kernel
theorem dX2_stateAfter_31 : decode cX2_stateAfter 31 = .ok (.aconst_null, 1) := by decide +kernel
theorem dX2_stateAfter_32 : decode cX2_stateAfter 32 = .ok (.areturn, 1) := by decide +kernel
set_option maxRecDepth 20000 in
theorem ggX3_init_X1_init : GoodIn wsX3_init wsX1_init := goodIn_r _ [16, 17, 2, 3, 8, 18, 19, 20] (by decide +kernel) (by decide +kernel)
set_option maxRecDepth 20000 in
theorem gX3_init_X1_init_n11 : GoodIn wsX3_init (wsX1_init) := ggX3_init_X1_init
theorem dX3_init_0 : decode cX3_init 0 = .ok (.aload_n 0, 1) := by decide +kernel
theorem dX3_init_1 : decode cX3_init 1 = .ok (.invokespecial 3, 3) := by decide +kernel
theorem dX3_init_4 : decode cX3_init 4 = .ok (.aload_n 0, 1) := by decide +kernel
theorem dX3_init_5 : decode cX3_init 5 = .ok (.new 9, 3) := by decide +kernel
theorem dX3_init_8 : decode cX3_init 8 = .ok (.dup, 1) := by decide +kernel
theorem dX3_init_9 : decode cX3_init 9 = .ok (.invokespecial 11, 3) := by decide +kernel
theorem dX3_init_12 : decode cX3_init 12 = .ok (.putfield 12, 3) := by decide +kernel
theorem dX3_init_15 : decode cX3_init 15 = .ok (.aload_n 0, 1) := by decide +kernel
theorem dX3_init_16 : decode cX3_init 16 = .ok (.bipush 40, 2) := by decide +kernel
theorem dX3_init_18 : decode cX3_init 18 = .ok (.newarray .int, 2) := by decide +kernel
theorem dX3_init_20 : decode cX3_init 20 = .ok (.putfield 18, 3) := by decide +kernel
theorem dX3_init_23 : decode cX3_init 23 = .ok (.aload_n 0, 1) := by decide +kernel
theorem dX3_init_24 : decode cX3_init 24 = .ok (.bipush 40, 2) := by decide +kernel
theorem dX3_init_26 : decode cX3_init 26 = .ok (.newarray .int, 2) := by decide +kernel
theorem dX3_init_28 : decode cX3_init 28 = .ok (.putfield 22, 3) := by decide +kernel
theorem dX3_init_31 : decode cX3_init 31 = .ok (.aload_n 0, 1) := by decide +kernel
theorem dX3_init_32 : decode cX3_init 32 = .ok (.bipush 40, 2) := by decide +kernel
theorem dX3_init_34 : decode cX3_init 34 = .ok (.newarray .int, 2) := by decide +kernel
theorem dX3_init_36 : decode cX3_init 36 = .ok (.putfield 25, 3) := by decide +kernel
theorem dX3_init_39 : decode cX3_init 39 = .ok (.aload_n 0, 1) := by decide +kernel
theorem dX3_init_40 : decode cX3_init 40 = .ok (.bipush 40, 2) := by decide +kernel
theorem dX3_init_42 : decode cX3_init 42 = .ok (.newarray .int, 2) := by decide +kernel
theorem dX3_init_44 : decode cX3_init 44 = .ok (.putfield 28, 3) := by decide +kernel
theorem dX3_init_47 : decode cX3_init 47 = .ok (.aload_n 0, 1) := by decide +kernel
theorem dX3_init_48 : decode cX3_init 48 = .ok (.bipush 6, 2) := by decide +kernel
theorem dX3_init_50 : decode cX3_init 50 = .ok (.newarray .int, 2) := by decide +kernel
theorem dX3_init_52 : decode cX3_init 52 = .ok (.putfield 31, 3) := by decide +kernel
theorem dX3_init_55 : decode cX3_init 55 = .ok (.aload_n 0, 1) := by decide +kernel
theorem dX3_init_56 : decode cX3_init 56 = .ok (.bipush 6, 2) := by decide +kernel
theorem dX3_init_58 : decode cX3_init 58 = .ok (.newarray .int, 2) := by decide +kernel
theorem dX3_init_60 : decode cX3_init 60 = .ok (.putfield 34, 3) := by decide +kernel
theorem dX3_init_63 : decode cX3_init 63 = .ok (.return_, 1) := by decide +kernel
set_option maxRecDepth 20000 in
theorem ggX3_read_X1_clear : GoodIn wsX3_read wsX1_clear := goodIn_r _ [11, 12, 76, 77] (by decide +kernel) (by decide +kernel)
set_option maxRecDepth 20000 in
theorem gX3_read_X1_clear : GoodIn wsX3_read (wsV RX3 41 RX1 yX1_clear wsX1_clear) := goodIn_app (goodIn_of _ (by decide +kernel)) ggX3_read_X1_clear
set_option maxRecDepth 20000 in
theorem ggX3_read_X4_setting : GoodIn wsX3_read wsX4_setting := goodIn_r _ [17, 18, 73, 74, 75] (by decide +kernel) (by decide +kernel)
set_option maxRecDepth 20000 in
theorem gX3_read_X4_setting : GoodIn wsX3_read (wsV RX3 44 RX4 yX4_setting wsX4_setting) := goodIn_app (goodIn_of _ (by decide +kernel)) ggX3_read_X4_setting
set_option maxRecDepth 20000 in
theorem ggX3_read_X7_cardAt : GoodIn wsX3_read wsX7_cardAt := goodIn_r _ [23, 24, 78] (by decide +kernel) (by decide +kernel)
set_option maxRecDepth 20000 in
theorem gX3_read_X7_cardAt : GoodIn wsX3_read (wsV RX3 56 RX7 yX7_cardAt wsX7_cardAt) := goodIn_app (goodIn_of _ (by decide +kernel)) ggX3_read_X7_cardAt
set_option maxRecDepth 20000 in
theorem ggX3_read_X1_has : GoodIn wsX3_read wsX1_has := goodIn_r _ [28, 12, 76, 77] (by decide +kernel) (by decide +kernel)
set_option maxRecDepth 20000 in
theorem gX3_read_X1_has : GoodIn wsX3_read (wsV RX3 62 RX1 yX1_has wsX1_has) := goodIn_app (goodIn_of _ (by decide +kernel)) ggX3_read_X1_has
set_option maxRecDepth 20000 in
theorem ggX3_read_X3_readCard : GoodIn wsX3_read wsX3_readCard := goodIn_r _ [33, 1, 2, 34, 35, 36, 5, 37, 6, 38, 39, 40, 10, 41, 42, 43, 44, 45, 46, 12, 47, 48, 49, 50, 51, 52, 53, 54, 55, 56, 57, 58, 59, 60, 61, 62, 63, 64, 65, 66, 67, 68, 69, 70, 71, 72, 76, 77] (by decide +kernel) (by decide +kernel)
set_option maxRecDepth 20000 in
theorem gX3_read_X3_readCard : GoodIn wsX3_read (wsV RX3 66 RX3 yX3_readCard wsX3_readCard) := goodIn_app (goodIn_of _ (by decide +kernel)) ggX3_read_X3_readCard
theorem dX3_read_0 : decode cX3_read 0 = .ok (.aload_n 0, 1) := by decide +kernel
theorem dX3_read_1 : decode cX3_read 1 = .ok (.iconst 0, 1) := by decide +kernel
theorem dX3_read_2 : decode cX3_read 2 = .ok (.putfield 37, 3) := by decide +kernel
theorem dX3_read_5 : decode cX3_read 5 = .ok (.aload_n 0, 1) := by decide +kernel
theorem dX3_read_6 : decode cX3_read 6 = .ok (.getfield 12, 3) := by decide +kernel
theorem dX3_read_9 : decode cX3_read 9 = .ok (.invokevirtual 41, 3) := by decide +kernel
theorem dX3_read_12 : decode cX3_read 12 = .ok (.aload_n 0, 1) := by decide +kernel
theorem dX3_read_13 : decode cX3_read 13 = .ok (.aload_n 1, 1) := by decide +kernel
theorem dX3_read_14 : decode cX3_read 14 = .ok (.iconst 0, 1) := by decide +kernel
theorem dX3_read_15 : decode cX3_read 15 = .ok (.invokevirtual 44, 3) := by decide +kernel
theorem dX3_read_18 : decode cX3_read 18 = .ok (.putfield 50, 3) := by decide +kernel
theorem dX3_read_21 : decode cX3_read 21 = .ok (.aload_n 0, 1) := by decide +kernel
theorem dX3_read_22 : decode cX3_read 22 = .ok (.aload_n 1, 1) := by decide +kernel
theorem dX3_read_23 : decode cX3_read 23 = .ok (.iconst 1, 1) := by decide +kernel
theorem dX3_read_24 : decode cX3_read 24 = .ok (.invokevirtual 44, 3) := by decide +kernel
theorem dX3_read_27 : decode cX3_read 27 = .ok (.putfield 53, 3) := by decide +kernel
theorem dX3_read_30 : decode cX3_read 30 = .ok (.iconst 0, 1) := by decide +kernel
theorem dX3_read_31 : decode cX3_read 31 = .ok (.istore_n 3, 1) := by decide +kernel
theorem dX3_read_32 : decode cX3_read 32 = .ok (.iload_n 3, 1) := by decide +kernel
theorem dX3_read_33 : decode cX3_read 33 = .ok (.bipush 6, 2) := by decide +kernel
theorem dX3_read_35 : decode cX3_read 35 = .ok (.if_icmp .ge 25, 3) := by decide +kernel
theorem dX3_read_38 : decode cX3_read 38 = .ok (.aload_n 0, 1) := by decide +kernel
theorem dX3_read_39 : decode cX3_read 39 = .ok (.getfield 31, 3) := by decide +kernel
theorem dX3_read_42 : decode cX3_read 42 = .ok (.iload_n 3, 1) := by decide +kernel
theorem dX3_read_43 : decode cX3_read 43 = .ok (.bipush (-5), 2) := by decide +kernel
theorem dX3_read_45 : decode cX3_read 45 = .ok (.iastore, 1) := by decide +kernel
theorem dX3_read_46 : decode cX3_read 46 = .ok (.aload_n 0, 1) := by decide +kernel
theorem dX3_read_47 : decode cX3_read 47 = .ok (.getfield 34, 3) := by decide +kernel
theorem dX3_read_50 : decode cX3_read 50 = .ok (.iload_n 3, 1) := by decide +kernel
theorem dX3_read_51 : decode cX3_read 51 = .ok (.bipush (-5), 2) := by decide +kernel
theorem dX3_read_53 : decode cX3_read 53 = .ok (.iastore, 1) := by decide +kernel
theorem dX3_read_54 : decode cX3_read 54 = .ok (.iinc 3 1, 3) := by decide +kernel
theorem dX3_read_57 : decode cX3_read 57 = .ok (.goto (-25), 3) := by decide +kernel
theorem dX3_read_60 : decode cX3_read 60 = .ok (.iconst 0, 1) := by decide +kernel
theorem dX3_read_61 : decode cX3_read 61 = .ok (.istore_n 3, 1) := by decide +kernel
theorem dX3_read_62 : decode cX3_read 62 = .ok (.iload_n 3, 1) := by decide +kernel
theorem dX3_read_63 : decode cX3_read 63 = .ok (.bipush 96, 2) := by decide +kernel
theorem dX3_read_65 : decode cX3_read 65 = .ok (.if_icmp .ge 39, 3) := by decide +kernel
theorem dX3_read_68 : decode cX3_read 68 = .ok (.aload_n 2, 1) := by decide +kernel
theorem dX3_read_69 : decode cX3_read 69 = .ok (.iload_n 3, 1) := by decide +kernel
theorem dX3_read_70 : decode cX3_read 70 = .ok (.invokevirtual 56, 3) := by decide +kernel
theorem dX3_read_73 : decode cX3_read 73 = .ok (.istore 4, 2) := by decide +kernel
theorem dX3_read_75 : decode cX3_read 75 = .ok (.aload_n 1, 1) := by decide +kernel
theorem dX3_read_76 : decode cX3_read 76 = .ok (.getfield 61, 3) := by decide +kernel
theorem dX3_read_79 : decode cX3_read 79 = .ok (.iload 4, 2) := by decide +kernel
theorem dX3_read_81 : decode cX3_read 81 = .ok (.invokevirtual 62, 3) := by decide +kernel
theorem dX3_read_84 : decode cX3_read 84 = .ok (.ifCond .eq 14, 3) := by decide +kernel
theorem dX3_read_87 : decode cX3_read 87 = .ok (.aload_n 0, 1) := by decide +kernel
theorem dX3_read_88 : decode cX3_read 88 = .ok (.aload_n 1, 1) := by decide +kernel
theorem dX3_read_89 : decode cX3_read 89 = .ok (.getfield 61, 3) := by decide +kernel
theorem dX3_read_92 : decode cX3_read 92 = .ok (.iload 4, 2) := by decide +kernel
theorem dX3_read_94 : decode cX3_read 94 = .ok (.iload_n 3, 1) := by decide +kernel
theorem dX3_read_95 : decode cX3_read 95 = .ok (.invokevirtual 66, 3) := by decide +kernel
theorem dX3_read_98 : decode cX3_read 98 = .ok (.iinc 3 1, 3) := by decide +kernel
theorem dX3_read_101 : decode cX3_read 101 = .ok (.goto (-39), 3) := by decide +kernel
theorem dX3_read_104 : decode cX3_read 104 = .ok (.return_, 1) := by decide +kernel
set_option maxRecDepth 20000 in
theorem ggX3_readCard_X1_number : GoodIn wsX3_readCard wsX1_number := goodIn_r _ [13, 14, 15, 16, 17, 12, 18, 19, 46, 47] (by decide +kernel) (by decide +kernel)
set_option maxRecDepth 20000 in
theorem gX3_readCard_X1_number : GoodIn wsX3_readCard (wsV RX3 70 RX1 yX1_number wsX1_number) := goodIn_app (goodIn_of _ (by decide +kernel)) ggX3_readCard_X1_number
set_option maxRecDepth 20000 in
theorem ggX3_readCard_X8_isThread : GoodIn wsX3_readCard wsX8_isThread := goodIn_r _ [22] (by decide +kernel) (by decide +kernel)
set_option maxRecDepth 20000 in
theorem gX3_readCard_X8_isThread_n74 : GoodIn wsX3_readCard (wsX8_isThread) := ggX3_readCard_X8_isThread
set_option maxRecDepth 20000 in
theorem ggX3_readCard_X1_appendFrom : GoodIn wsX3_readCard wsX1_appendFrom := goodIn_r _ [26, 19, 27, 28, 29, 12, 30, 31, 10, 11, 13, 14, 15, 16, 17, 18, 32, 33, 34, 35, 46, 47] (by decide +kernel) (by decide +kernel)
set_option maxRecDepth 20000 in
theorem gX3_readCard_X1_appendFrom : GoodIn wsX3_readCard (wsV RX3 77 RX1 yX1_appendFrom wsX1_appendFrom) := goodIn_app (goodIn_of _ (by decide +kernel)) ggX3_readCard_X1_appendFrom
theorem dX3_readCard_0 : decode cX3_readCard 0 = .ok (.aload_n 0, 1) := by decide +kernel
theorem dX3_readCard_1 : decode cX3_readCard 1 = .ok (.getfield 37, 3) := by decide +kernel
theorem dX3_readCard_4 : decode cX3_readCard 4 = .ok (.istore 4, 2) := by decide +kernel
theorem dX3_readCard_6 : decode cX3_readCard 6 = .ok (.aload_n 1, 1) := by decide +kernel
theorem dX3_readCard_7 : decode cX3_readCard 7 = .ok (.iload_n 2, 1) := by decide +kernel
theorem dX3_readCard_8 : decode cX3_readCard 8 = .ok (.iconst 0, 1) := by decide +kernel
theorem dX3_readCard_9 : decode cX3_readCard 9 = .ok (.invokevirtual 70, 3) := by decide +kernel
theorem dX3_readCard_12 : decode cX3_readCard 12 = .ok (.istore 5, 2) := by decide +kernel
theorem dX3_readCard_14 : decode cX3_readCard 14 = .ok (.iload 4, 2) := by decide +kernel
theorem dX3_readCard_16 : decode cX3_readCard 16 = .ok (.ifCond .lt 18, 3) := by decide +kernel
theorem dX3_readCard_19 : decode cX3_readCard 19 = .ok (.iload 4, 2) := by decide +kernel
theorem dX3_readCard_21 : decode cX3_readCard 21 = .ok (.bipush 40, 2) := by decide +kernel
theorem dX3_readCard_23 : decode cX3_readCard 23 = .ok (.if_icmp .ge 11, 3) := by decide +kernel
theorem dX3_readCard_26 : decode cX3_readCard 26 = .ok (.iload 5, 2) := by decide +kernel
theorem dX3_readCard_28 : decode cX3_readCard 28 = .ok (.invokestatic 74, 3) := by decide +kernel
theorem dX3_readCard_31 : decode cX3_readCard 31 = .ok (.ifCond .ne 4, 3) := by decide +kernel
theorem dX3_readCard_34 : decode cX3_readCard 34 = .ok (.return_, 1) := by decide +kernel
theorem dX3_readCard_35 : decode cX3_readCard 35 = .ok (.aload_n 0, 1) := by decide +kernel
theorem dX3_readCard_36 : decode cX3_readCard 36 = .ok (.dup, 1) := by decide +kernel
theorem dX3_readCard_37 : decode cX3_readCard 37 = .ok (.getfield 37, 3) := by decide +kernel
theorem dX3_readCard_40 : decode cX3_readCard 40 = .ok (.iconst 1, 1) := by decide +kernel
theorem dX3_readCard_41 : decode cX3_readCard 41 = .ok (.iadd, 1) := by decide +kernel
theorem dX3_readCard_42 : decode cX3_readCard 42 = .ok (.putfield 37, 3) := by decide +kernel
theorem dX3_readCard_45 : decode cX3_readCard 45 = .ok (.aload_n 0, 1) := by decide +kernel
theorem dX3_readCard_46 : decode cX3_readCard 46 = .ok (.getfield 12, 3) := by decide +kernel
theorem dX3_readCard_49 : decode cX3_readCard 49 = .ok (.aload_n 1, 1) := by decide +kernel
theorem dX3_readCard_50 : decode cX3_readCard 50 = .ok (.iload_n 2, 1) := by decide +kernel
theorem dX3_readCard_51 : decode cX3_readCard 51 = .ok (.invokevirtual 77, 3) := by decide +kernel
theorem dX3_readCard_54 : decode cX3_readCard 54 = .ok (.aload_n 0, 1) := by decide +kernel
theorem dX3_readCard_55 : decode cX3_readCard 55 = .ok (.getfield 18, 3) := by decide +kernel
theorem dX3_readCard_58 : decode cX3_readCard 58 = .ok (.iload 4, 2) := by decide +kernel
theorem dX3_readCard_60 : decode cX3_readCard 60 = .ok (.iload_n 2, 1) := by decide +kernel
theorem dX3_readCard_61 : decode cX3_readCard 61 = .ok (.iastore, 1) := by decide +kernel
theorem dX3_readCard_62 : decode cX3_readCard 62 = .ok (.aload_n 0, 1) := by decide +kernel
theorem dX3_readCard_63 : decode cX3_readCard 63 = .ok (.getfield 22, 3) := by decide +kernel
theorem dX3_readCard_66 : decode cX3_readCard 66 = .ok (.iload 4, 2) := by decide +kernel
theorem dX3_readCard_68 : decode cX3_readCard 68 = .ok (.iload_n 3, 1) := by decide +kernel
theorem dX3_readCard_69 : decode cX3_readCard 69 = .ok (.iastore, 1) := by decide +kernel
theorem dX3_readCard_70 : decode cX3_readCard 70 = .ok (.aload_n 0, 1) := by decide +kernel
theorem dX3_readCard_71 : decode cX3_readCard 71 = .ok (.getfield 25, 3) := by decide +kernel
theorem dX3_readCard_74 : decode cX3_readCard 74 = .ok (.iload 4, 2) := by decide +kernel
theorem dX3_readCard_76 : decode cX3_readCard 76 = .ok (.aload_n 0, 1) := by decide +kernel
theorem dX3_readCard_77 : decode cX3_readCard 77 = .ok (.getfield 31, 3) := by decide +kernel
theorem dX3_readCard_80 : decode cX3_readCard 80 = .ok (.iload 5, 2) := by decide +kernel
theorem dX3_readCard_82 : decode cX3_readCard 82 = .ok (.iaload, 1) := by decide +kernel
theorem dX3_readCard_83 : decode cX3_readCard 83 = .ok (.iastore, 1) := by decide +kernel
theorem dX3_readCard_84 : decode cX3_readCard 84 = .ok (.aload_n 0, 1) := by decide +kernel
theorem dX3_readCard_85 : decode cX3_readCard 85 = .ok (.getfield 31, 3) := by decide +kernel
theorem dX3_readCard_88 : decode cX3_readCard 88 = .ok (.iload 5, 2) := by decide +kernel
theorem dX3_readCard_90 : decode cX3_readCard 90 = .ok (.iload 4, 2) := by decide +kernel
theorem dX3_readCard_92 : decode cX3_readCard 92 = .ok (.iastore, 1) := by decide +kernel
theorem dX3_readCard_93 : decode cX3_readCard 93 = .ok (.aload_n 1, 1) := by decide +kernel
theorem dX3_readCard_94 : decode cX3_readCard 94 = .ok (.iload_n 2, 1) := by decide +kernel
theorem dX3_readCard_95 : decode cX3_readCard 95 = .ok (.iconst 4, 1) := by decide +kernel
theorem dX3_readCard_96 : decode cX3_readCard 96 = .ok (.invokevirtual 70, 3) := by decide +kernel
theorem dX3_readCard_99 : decode cX3_readCard 99 = .ok (.iconst 1, 1) := by decide +kernel
theorem dX3_readCard_100 : decode cX3_readCard 100 = .ok (.if_icmp .ne 15, 3) := by decide +kernel
theorem dX3_readCard_103 : decode cX3_readCard 103 = .ok (.aload_n 0, 1) := by decide +kernel
theorem dX3_readCard_104 : decode cX3_readCard 104 = .ok (.getfield 28, 3) := by decide +kernel
theorem dX3_readCard_107 : decode cX3_readCard 107 = .ok (.iload 4, 2) := by decide +kernel
theorem dX3_readCard_109 : decode cX3_readCard 109 = .ok (.bipush (-5), 2) := by decide +kernel
theorem dX3_readCard_111 : decode cX3_readCard 111 = .ok (.iastore, 1) := by decide +kernel
theorem dX3_readCard_112 : decode cX3_readCard 112 = .ok (.goto 26, 3) := by decide +kernel
theorem dX3_readCard_115 : decode cX3_readCard 115 = .ok (.aload_n 0, 1) := by decide +kernel
theorem dX3_readCard_116 : decode cX3_readCard 116 = .ok (.getfield 28, 3) := by decide +kernel
theorem dX3_readCard_119 : decode cX3_readCard 119 = .ok (.iload 4, 2) := by decide +kernel
theorem dX3_readCard_121 : decode cX3_readCard 121 = .ok (.aload_n 0, 1) := by decide +kernel
theorem dX3_readCard_122 : decode cX3_readCard 122 = .ok (.getfield 34, 3) := by decide +kernel
theorem dX3_readCard_125 : decode cX3_readCard 125 = .ok (.iload 5, 2) := by decide +kernel
theorem dX3_readCard_127 : decode cX3_readCard 127 = .ok (.iaload, 1) := by decide +kernel
theorem dX3_readCard_128 : decode cX3_readCard 128 = .ok (.iastore, 1) := by decide +kernel
theorem dX3_readCard_129 : decode cX3_readCard 129 = .ok (.aload_n 0, 1) := by decide +kernel
theorem dX3_readCard_130 : decode cX3_readCard 130 = .ok (.getfield 34, 3) := by decide +kernel
theorem dX3_readCard_133 : decode cX3_readCard 133 = .ok (.iload 5, 2) := by decide +kernel
theorem dX3_readCard_135 : decode cX3_readCard 135 = .ok (.iload 4, 2) := by decide +kernel
theorem dX3_readCard_137 : decode cX3_readCard 137 = .ok (.iastore, 1) := by decide +kernel
theorem dX3_readCard_138 : decode cX3_readCard 138 = .ok (.return_, 1) := by decide +kernel
theorem dX3_size_0 : decode cX3_size 0 = .ok (.aload_n 0, 1) := by decide +kernel
theorem dX3_size_1 : decode cX3_size 1 = .ok (.getfield 37, 3) := by decide +kernel
theorem dX3_size_4 : decode cX3_size 4 = .ok (.ireturn, 1) := by decide +kernel
theorem dX3_valueAt_0 : decode cX3_valueAt 0 = .ok (.iload_n 2, 1) := by decide +kernel
theorem dX3_valueAt_1 : decode cX3_valueAt 1 = .ok (.ifCond .lt 23, 3) := by decide +kernel
theorem dX3_valueAt_4 : decode cX3_valueAt 4 = .ok (.iload_n 2, 1) := by decide +kernel
theorem dX3_valueAt_5 : decode cX3_valueAt 5 = .ok (.aload_n 0, 1) := by decide +kernel
theorem dX3_valueAt_6 : decode cX3_valueAt 6 = .ok (.getfield 37, 3) := by decide +kernel
theorem dX3_valueAt_9 : decode cX3_valueAt 9 = .ok (.if_icmp .ge 15, 3) := by decide +kernel
theorem dX3_valueAt_12 : decode cX3_valueAt 12 = .ok (.iload_n 2, 1) := by decide +kernel
theorem dX3_valueAt_13 : decode cX3_valueAt 13 = .ok (.aload_n 1, 1) := by decide +kernel
theorem dX3_valueAt_14 : decode cX3_valueAt 14 = .ok (.arraylength, 1) := by decide +kernel
theorem dX3_valueAt_15 : decode cX3_valueAt 15 = .ok (.if_icmp .ge 9, 3) := by decide +kernel
theorem dX3_valueAt_18 : decode cX3_valueAt 18 = .ok (.aload_n 1, 1) := by decide +kernel
theorem dX3_valueAt_19 : decode cX3_valueAt 19 = .ok (.iload_n 2, 1) := by decide +kernel
theorem dX3_valueAt_20 : decode cX3_valueAt 20 = .ok (.iaload, 1) := by decide +kernel
theorem dX3_valueAt_21 : decode cX3_valueAt 21 = .ok (.goto 5, 3) := by decide +kernel
theorem dX3_valueAt_24 : decode cX3_valueAt 24 = .ok (.bipush (-5), 2) := by decide +kernel
theorem dX3_valueAt_26 : decode cX3_valueAt 26 = .ok (.ireturn, 1) := by decide +kernel
set_option maxRecDepth 20000 in
theorem ggX3_cardAt_X3_valueAt : GoodIn wsX3_cardAt wsX3_valueAt := goodIn_r _ [6, 7, 8, 9, 10, 11, 12, 13, 14, 15, 16, 17] (by decide +kernel) (by decide +kernel)
set_option maxRecDepth 20000 in
theorem gX3_cardAt_X3_valueAt : GoodIn wsX3_cardAt (wsV RX3 81 RX3 yX3_valueAt wsX3_valueAt) := goodIn_app (goodIn_of _ (by decide +kernel)) ggX3_cardAt_X3_valueAt
theorem dX3_cardAt_0 : decode cX3_cardAt 0 = .ok (.aload_n 0, 1) := by decide +kernel
theorem dX3_cardAt_1 : decode cX3_cardAt 1 = .ok (.aload_n 0, 1) := by decide +kernel
theorem dX3_cardAt_2 : decode cX3_cardAt 2 = .ok (.getfield 18, 3) := by decide +kernel
theorem dX3_cardAt_5 : decode cX3_cardAt 5 = .ok (.iload_n 1, 1) := by decide +kernel
theorem dX3_cardAt_6 : decode cX3_cardAt 6 = .ok (.invokevirtual 81, 3) := by decide +kernel
theorem dX3_cardAt_9 : decode cX3_cardAt 9 = .ok (.ireturn, 1) := by decide +kernel
set_option maxRecDepth 20000 in
theorem ggX3_slotAt_X3_valueAt : GoodIn wsX3_slotAt wsX3_valueAt := goodIn_r _ [6, 7, 8, 9, 10, 11, 12, 13, 14, 15, 16, 17] (by decide +kernel) (by decide +kernel)
set_option maxRecDepth 20000 in
theorem gX3_slotAt_X3_valueAt : GoodIn wsX3_slotAt (wsV RX3 81 RX3 yX3_valueAt wsX3_valueAt) := goodIn_app (goodIn_of _ (by decide +kernel)) ggX3_slotAt_X3_valueAt
theorem dX3_slotAt_0 : decode cX3_slotAt 0 = .ok (.aload_n 0, 1) := by decide +kernel
theorem dX3_slotAt_1 : decode cX3_slotAt 1 = .ok (.aload_n 0, 1) := by decide +kernel
theorem dX3_slotAt_2 : decode cX3_slotAt 2 = .ok (.getfield 22, 3) := by decide +kernel
theorem dX3_slotAt_5 : decode cX3_slotAt 5 = .ok (.iload_n 1, 1) := by decide +kernel
theorem dX3_slotAt_6 : decode cX3_slotAt 6 = .ok (.invokevirtual 81, 3) := by decide +kernel
theorem dX3_slotAt_9 : decode cX3_slotAt 9 = .ok (.ireturn, 1) := by decide +kernel
set_option maxRecDepth 20000 in
theorem ggX3_sceneAt_X3_valueAt : GoodIn wsX3_sceneAt wsX3_valueAt := goodIn_r _ [6, 7, 8, 9, 10, 11, 12, 13, 14, 15, 16, 17] (by decide +kernel) (by decide +kernel)
set_option maxRecDepth 20000 in
theorem gX3_sceneAt_X3_valueAt : GoodIn wsX3_sceneAt (wsV RX3 81 RX3 yX3_valueAt wsX3_valueAt) := goodIn_app (goodIn_of _ (by decide +kernel)) ggX3_sceneAt_X3_valueAt
theorem dX3_sceneAt_0 : decode cX3_sceneAt 0 = .ok (.aload_n 0, 1) := by decide +kernel
theorem dX3_sceneAt_1 : decode cX3_sceneAt 1 = .ok (.aload_n 0, 1) := by decide +kernel
theorem dX3_sceneAt_2 : decode cX3_sceneAt 2 = .ok (.getfield 22, 3) := by decide +kernel
theorem dX3_sceneAt_5 : decode cX3_sceneAt 5 = .ok (.iload_n 1, 1) := by decide +kernel
theorem dX3_sceneAt_6 : decode cX3_sceneAt 6 = .ok (.invokevirtual 81, 3) := by decide +kernel
theorem dX3_sceneAt_9 : decode cX3_sceneAt 9 = .ok (.istore_n 2, 1) := by decide +kernel
theorem dX3_sceneAt_10 : decode cX3_sceneAt 10 = .ok (.iload_n 2, 1) := by decide +kernel
theorem dX3_sceneAt_11 : decode cX3_sceneAt 11 = .ok (.bipush (-5), 2) := by decide +kernel
theorem dX3_sceneAt_13 : decode cX3_sceneAt 13 = .ok (.if_icmp .ne 8, 3) := by decide +kernel
theorem dX3_sceneAt_16 : decode cX3_sceneAt 16 = .ok (.bipush (-5), 2) := by decide +kernel
theorem dX3_sceneAt_18 : decode cX3_sceneAt 18 = .ok (.goto 7, 3) := by decide +kernel
theorem dX3_sceneAt_21 : decode cX3_sceneAt 21 = .ok (.iload_n 2, 1) := by decide +kernel
theorem dX3_sceneAt_22 : decode cX3_sceneAt 22 = .ok (.bipush 6, 2) := by decide +kernel
theorem dX3_sceneAt_24 : decode cX3_sceneAt 24 = .ok (.idiv, 1) := by decide +kernel
theorem dX3_sceneAt_25 : decode cX3_sceneAt 25 = .ok (.ireturn, 1) := by decide +kernel
set_option maxRecDepth 20000 in
theorem ggX3_placeAt_X3_valueAt : GoodIn wsX3_placeAt wsX3_valueAt := goodIn_r _ [6, 7, 8, 9, 10, 11, 12, 13, 14, 15, 16, 17] (by decide +kernel) (by decide +kernel)
set_option maxRecDepth 20000 in
theorem gX3_placeAt_X3_valueAt : GoodIn wsX3_placeAt (wsV RX3 81 RX3 yX3_valueAt wsX3_valueAt) := goodIn_app (goodIn_of _ (by decide +kernel)) ggX3_placeAt_X3_valueAt
theorem dX3_placeAt_0 : decode cX3_placeAt 0 = .ok (.aload_n 0, 1) := by decide +kernel
theorem dX3_placeAt_1 : decode cX3_placeAt 1 = .ok (.aload_n 0, 1) := by decide +kernel
theorem dX3_placeAt_2 : decode cX3_placeAt 2 = .ok (.getfield 22, 3) := by decide +kernel
theorem dX3_placeAt_5 : decode cX3_placeAt 5 = .ok (.iload_n 1, 1) := by decide +kernel
theorem dX3_placeAt_6 : decode cX3_placeAt 6 = .ok (.invokevirtual 81, 3) := by decide +kernel
theorem dX3_placeAt_9 : decode cX3_placeAt 9 = .ok (.istore_n 2, 1) := by decide +kernel
theorem dX3_placeAt_10 : decode cX3_placeAt 10 = .ok (.iload_n 2, 1) := by decide +kernel
theorem dX3_placeAt_11 : decode cX3_placeAt 11 = .ok (.bipush (-5), 2) := by decide +kernel
theorem dX3_placeAt_13 : decode cX3_placeAt 13 = .ok (.if_icmp .ne 8, 3) := by decide +kernel
theorem dX3_placeAt_16 : decode cX3_placeAt 16 = .ok (.bipush (-5), 2) := by decide +kernel
theorem dX3_placeAt_18 : decode cX3_placeAt 18 = .ok (.goto 7, 3) := by decide +kernel
theorem dX3_placeAt_21 : decode cX3_placeAt 21 = .ok (.iload_n 2, 1) := by decide +kernel
theorem dX3_placeAt_22 : decode cX3_placeAt 22 = .ok (.bipush 6, 2) := by decide +kernel
theorem dX3_placeAt_24 : decode cX3_placeAt 24 = .ok (.irem, 1) := by decide +kernel
theorem dX3_placeAt_25 : decode cX3_placeAt 25 = .ok (.ireturn, 1) := by decide +kernel
set_option maxRecDepth 20000 in
theorem ggX3_rankAhead_X3_valueAt : GoodIn wsX3_rankAhead wsX3_valueAt := goodIn_r _ [6, 7, 8, 9, 10, 11, 12, 13, 14, 15, 16, 17] (by decide +kernel) (by decide +kernel)
set_option maxRecDepth 20000 in
theorem gX3_rankAhead_X3_valueAt : GoodIn wsX3_rankAhead (wsV RX3 81 RX3 yX3_valueAt wsX3_valueAt) := goodIn_app (goodIn_of _ (by decide +kernel)) ggX3_rankAhead_X3_valueAt
theorem dX3_rankAhead_0 : decode cX3_rankAhead 0 = .ok (.aload_n 0, 1) := by decide +kernel
theorem dX3_rankAhead_1 : decode cX3_rankAhead 1 = .ok (.aload_n 0, 1) := by decide +kernel
theorem dX3_rankAhead_2 : decode cX3_rankAhead 2 = .ok (.getfield 25, 3) := by decide +kernel
theorem dX3_rankAhead_5 : decode cX3_rankAhead 5 = .ok (.iload_n 1, 1) := by decide +kernel
theorem dX3_rankAhead_6 : decode cX3_rankAhead 6 = .ok (.invokevirtual 81, 3) := by decide +kernel
theorem dX3_rankAhead_9 : decode cX3_rankAhead 9 = .ok (.ireturn, 1) := by decide +kernel
set_option maxRecDepth 20000 in
theorem ggX3_hourAt_X1_number : GoodIn wsX3_hourAt wsX1_number := goodIn_r _ [6, 7, 8, 9, 10, 5, 11, 12, 23, 24] (by decide +kernel) (by decide +kernel)
set_option maxRecDepth 20000 in
theorem gX3_hourAt_X1_number : GoodIn wsX3_hourAt (wsV RX3 70 RX1 yX1_number wsX1_number) := goodIn_app (goodIn_of _ (by decide +kernel)) ggX3_hourAt_X1_number
theorem dX3_hourAt_0 : decode cX3_hourAt 0 = .ok (.aload_n 0, 1) := by decide +kernel
theorem dX3_hourAt_1 : decode cX3_hourAt 1 = .ok (.getfield 12, 3) := by decide +kernel
theorem dX3_hourAt_4 : decode cX3_hourAt 4 = .ok (.iload_n 1, 1) := by decide +kernel
theorem dX3_hourAt_5 : decode cX3_hourAt 5 = .ok (.iconst 1, 1) := by decide +kernel
theorem dX3_hourAt_6 : decode cX3_hourAt 6 = .ok (.invokevirtual 70, 3) := by decide +kernel
theorem dX3_hourAt_9 : decode cX3_hourAt 9 = .ok (.ireturn, 1) := by decide +kernel
set_option maxRecDepth 20000 in
theorem ggX3_rankOf_X3_cardAt : GoodIn wsX3_rankOf wsX3_cardAt := goodIn_r _ [6, 7, 8, 9, 10, 5, 11, 1, 12, 13, 14, 15, 16, 17, 18, 19, 20, 21] (by decide +kernel) (by decide +kernel)
set_option maxRecDepth 20000 in
theorem gX3_rankOf_X3_cardAt : GoodIn wsX3_rankOf (wsV RX3 85 RX3 yX3_cardAt wsX3_cardAt) := goodIn_app (goodIn_of _ (by decide +kernel)) ggX3_rankOf_X3_cardAt
theorem dX3_rankOf_0 : decode cX3_rankOf 0 = .ok (.iconst 0, 1) := by decide +kernel
theorem dX3_rankOf_1 : decode cX3_rankOf 1 = .ok (.istore_n 2, 1) := by decide +kernel
theorem dX3_rankOf_2 : decode cX3_rankOf 2 = .ok (.iload_n 2, 1) := by decide +kernel
theorem dX3_rankOf_3 : decode cX3_rankOf 3 = .ok (.aload_n 0, 1) := by decide +kernel
theorem dX3_rankOf_4 : decode cX3_rankOf 4 = .ok (.getfield 37, 3) := by decide +kernel
theorem dX3_rankOf_7 : decode cX3_rankOf 7 = .ok (.if_icmp .ge 20, 3) := by decide +kernel
theorem dX3_rankOf_10 : decode cX3_rankOf 10 = .ok (.aload_n 0, 1) := by decide +kernel
theorem dX3_rankOf_11 : decode cX3_rankOf 11 = .ok (.iload_n 2, 1) := by decide +kernel
theorem dX3_rankOf_12 : decode cX3_rankOf 12 = .ok (.invokevirtual 85, 3) := by decide +kernel
theorem dX3_rankOf_15 : decode cX3_rankOf 15 = .ok (.iload_n 1, 1) := by decide +kernel
theorem dX3_rankOf_16 : decode cX3_rankOf 16 = .ok (.if_icmp .ne 5, 3) := by decide +kernel
theorem dX3_rankOf_19 : decode cX3_rankOf 19 = .ok (.iload_n 2, 1) := by decide +kernel
theorem dX3_rankOf_20 : decode cX3_rankOf 20 = .ok (.ireturn, 1) := by decide +kernel
theorem dX3_rankOf_21 : decode cX3_rankOf 21 = .ok (.iinc 2 1, 3) := by decide +kernel
theorem dX3_rankOf_24 : decode cX3_rankOf 24 = .ok (.goto (-22), 3) := by decide +kernel
theorem dX3_rankOf_27 : decode cX3_rankOf 27 = .ok (.bipush (-5), 2) := by decide +kernel
theorem dX3_rankOf_29 : decode cX3_rankOf 29 = .ok (.ireturn, 1) := by decide +kernel
set_option maxRecDepth 20000 in
theorem ggX3_isOf_X1_number : GoodIn wsX3_isOf wsX1_number := goodIn_r _ [6, 7, 8, 9, 10, 5, 11, 12, 23, 24] (by decide +kernel) (by decide +kernel)
set_option maxRecDepth 20000 in
theorem gX3_isOf_X1_number : GoodIn wsX3_isOf (wsV RX3 70 RX1 yX1_number wsX1_number) := goodIn_app (goodIn_of _ (by decide +kernel)) ggX3_isOf_X1_number
theorem dX3_isOf_0 : decode cX3_isOf 0 = .ok (.iload_n 2, 1) := by decide +kernel
theorem dX3_isOf_1 : decode cX3_isOf 1 = .ok (.iconst (-1), 1) := by decide +kernel
theorem dX3_isOf_2 : decode cX3_isOf 2 = .ok (.if_icmp .eq 16, 3) := by decide +kernel
theorem dX3_isOf_5 : decode cX3_isOf 5 = .ok (.aload_n 0, 1) := by decide +kernel
theorem dX3_isOf_6 : decode cX3_isOf 6 = .ok (.getfield 12, 3) := by decide +kernel
theorem dX3_isOf_9 : decode cX3_isOf 9 = .ok (.iload_n 1, 1) := by decide +kernel
theorem dX3_isOf_10 : decode cX3_isOf 10 = .ok (.iconst 0, 1) := by decide +kernel
theorem dX3_isOf_11 : decode cX3_isOf 11 = .ok (.invokevirtual 70, 3) := by decide +kernel
theorem dX3_isOf_14 : decode cX3_isOf 14 = .ok (.iload_n 2, 1) := by decide +kernel
theorem dX3_isOf_15 : decode cX3_isOf 15 = .ok (.if_icmp .ne 7, 3) := by decide +kernel
theorem dX3_isOf_18 : decode cX3_isOf 18 = .ok (.iconst 1, 1) := by decide +kernel
theorem dX3_isOf_19 : decode cX3_isOf 19 = .ok (.goto 4, 3) := by decide +kernel
theorem dX3_isOf_22 : decode cX3_isOf 22 = .ok (.iconst 0, 1) := by decide +kernel
theorem dX3_isOf_23 : decode cX3_isOf 23 = .ok (.ireturn, 1) := by decide +kernel
set_option maxRecDepth 20000 in
theorem ggX3_isStraight_X1_number : GoodIn wsX3_isStraight wsX1_number := goodIn_r _ [6, 7, 8, 9, 10, 5, 11, 12, 23, 24] (by decide +kernel) (by decide +kernel)
set_option maxRecDepth 20000 in
theorem gX3_isStraight_X1_number : GoodIn wsX3_isStraight (wsV RX3 70 RX1 yX1_number wsX1_number) := goodIn_app (goodIn_of _ (by decide +kernel)) ggX3_isStraight_X1_number
theorem dX3_isStraight_0 : decode cX3_isStraight 0 = .ok (.aload_n 0, 1) := by decide +kernel
theorem dX3_isStraight_1 : decode cX3_isStraight 1 = .ok (.getfield 12, 3) := by decide +kernel
theorem dX3_isStraight_4 : decode cX3_isStraight 4 = .ok (.iload_n 1, 1) := by decide +kernel
theorem dX3_isStraight_5 : decode cX3_isStraight 5 = .ok (.iconst 4, 1) := by decide +kernel
theorem dX3_isStraight_6 : decode cX3_isStraight 6 = .ok (.invokevirtual 70, 3) := by decide +kernel
theorem dX3_isStraight_9 : decode cX3_isStraight 9 = .ok (.ifCond .ne 7, 3) := by decide +kernel
theorem dX3_isStraight_12 : decode cX3_isStraight 12 = .ok (.iconst 1, 1) := by decide +kernel
theorem dX3_isStraight_13 : decode cX3_isStraight 13 = .ok (.goto 4, 3) := by decide +kernel
theorem dX3_isStraight_16 : decode cX3_isStraight 16 = .ok (.iconst 0, 1) := by decide +kernel
theorem dX3_isStraight_17 : decode cX3_isStraight 17 = .ok (.ireturn, 1) := by decide +kernel
set_option maxRecDepth 20000 in
theorem ggX3_isBreak_X3_valueAt : GoodIn wsX3_isBreak wsX3_valueAt := goodIn_r _ [7, 8, 20, 21, 22, 23, 24, 25, 26, 27, 28, 29] (by decide +kernel) (by decide +kernel)
set_option maxRecDepth 20000 in
theorem gX3_isBreak_X3_valueAt : GoodIn wsX3_isBreak (wsV RX3 81 RX3 yX3_valueAt wsX3_valueAt) := goodIn_app (goodIn_of _ (by decide +kernel)) ggX3_isBreak_X3_valueAt
set_option maxRecDepth 20000 in
theorem ggX3_isBreak_X1_number : GoodIn wsX3_isBreak wsX1_number := goodIn_r _ [13, 14, 15, 16, 17, 12, 18, 19, 30, 31] (by decide +kernel) (by decide +kernel)
set_option maxRecDepth 20000 in
theorem gX3_isBreak_X1_number : GoodIn wsX3_isBreak (wsV RX3 70 RX1 yX1_number wsX1_number) := goodIn_app (goodIn_of _ (by decide +kernel)) ggX3_isBreak_X1_number
theorem dX3_isBreak_0 : decode cX3_isBreak 0 = .ok (.aload_n 0, 1) := by decide +kernel
theorem dX3_isBreak_1 : decode cX3_isBreak 1 = .ok (.aload_n 0, 1) := by decide +kernel
theorem dX3_isBreak_2 : decode cX3_isBreak 2 = .ok (.getfield 28, 3) := by decide +kernel
theorem dX3_isBreak_5 : decode cX3_isBreak 5 = .ok (.iload_n 1, 1) := by decide +kernel
theorem dX3_isBreak_6 : decode cX3_isBreak 6 = .ok (.invokevirtual 81, 3) := by decide +kernel
theorem dX3_isBreak_9 : decode cX3_isBreak 9 = .ok (.istore_n 2, 1) := by decide +kernel
theorem dX3_isBreak_10 : decode cX3_isBreak 10 = .ok (.iload_n 2, 1) := by decide +kernel
theorem dX3_isBreak_11 : decode cX3_isBreak 11 = .ok (.bipush (-5), 2) := by decide +kernel
theorem dX3_isBreak_13 : decode cX3_isBreak 13 = .ok (.if_icmp .eq 28, 3) := by decide +kernel
theorem dX3_isBreak_16 : decode cX3_isBreak 16 = .ok (.aload_n 0, 1) := by decide +kernel
theorem dX3_isBreak_17 : decode cX3_isBreak 17 = .ok (.getfield 12, 3) := by decide +kernel
theorem dX3_isBreak_20 : decode cX3_isBreak 20 = .ok (.iload_n 1, 1) := by decide +kernel
theorem dX3_isBreak_21 : decode cX3_isBreak 21 = .ok (.iconst 1, 1) := by decide +kernel
theorem dX3_isBreak_22 : decode cX3_isBreak 22 = .ok (.invokevirtual 70, 3) := by decide +kernel
theorem dX3_isBreak_25 : decode cX3_isBreak 25 = .ok (.aload_n 0, 1) := by decide +kernel
theorem dX3_isBreak_26 : decode cX3_isBreak 26 = .ok (.getfield 12, 3) := by decide +kernel
theorem dX3_isBreak_29 : decode cX3_isBreak 29 = .ok (.iload_n 2, 1) := by decide +kernel
theorem dX3_isBreak_30 : decode cX3_isBreak 30 = .ok (.iconst 1, 1) := by decide +kernel
theorem dX3_isBreak_31 : decode cX3_isBreak 31 = .ok (.invokevirtual 70, 3) := by decide +kernel
theorem dX3_isBreak_34 : decode cX3_isBreak 34 = .ok (.if_icmp .ge 7, 3) := by decide +kernel
theorem dX3_isBreak_37 : decode cX3_isBreak 37 = .ok (.iconst 1, 1) := by decide +kernel
theorem dX3_isBreak_38 : decode cX3_isBreak 38 = .ok (.goto 4, 3) := by decide +kernel
theorem dX3_isBreak_41 : decode cX3_isBreak 41 = .ok (.iconst 0, 1) := by decide +kernel
theorem dX3_isBreak_42 : decode cX3_isBreak 42 = .ok (.ireturn, 1) := by decide +kernel
set_option maxRecDepth 20000 in
theorem ggX3_endsThreadHole_X3_rankAhead : GoodIn wsX3_endsThreadHole wsX3_rankAhead := goodIn_r _ [6, 7, 8, 9, 10, 5, 11, 12, 18, 19, 20, 21, 22, 23, 24, 25, 26, 27] (by decide +kernel) (by decide +kernel)
set_option maxRecDepth 20000 in
theorem gX3_endsThreadHole_X3_rankAhead : GoodIn wsX3_endsThreadHole (wsV RX3 86 RX3 yX3_rankAhead wsX3_rankAhead) := goodIn_app (goodIn_of _ (by decide +kernel)) ggX3_endsThreadHole_X3_rankAhead
set_option maxRecDepth 20000 in
theorem ggX3_endsThreadHole_X3_sceneAt : GoodIn wsX3_endsThreadHole wsX3_sceneAt := goodIn_r _ [16, 17, 8, 9, 10, 5, 11, 12, 18, 19, 20, 21, 22, 23, 24, 25, 26, 27] (by decide +kernel) (by decide +kernel)
set_option maxRecDepth 20000 in
theorem gX3_endsThreadHole_X3_sceneAt : GoodIn wsX3_endsThreadHole (wsV RX3 89 RX3 yX3_sceneAt wsX3_sceneAt) := goodIn_app (goodIn_of _ (by decide +kernel)) ggX3_endsThreadHole_X3_sceneAt
theorem dX3_endsThreadHole_0 : decode cX3_endsThreadHole 0 = .ok (.aload_n 0, 1) := by decide +kernel
theorem dX3_endsThreadHole_1 : decode cX3_endsThreadHole 1 = .ok (.iload_n 1, 1) := by decide +kernel
theorem dX3_endsThreadHole_2 : decode cX3_endsThreadHole 2 = .ok (.invokevirtual 86, 3) := by decide +kernel
theorem dX3_endsThreadHole_5 : decode cX3_endsThreadHole 5 = .ok (.istore_n 2, 1) := by decide +kernel
theorem dX3_endsThreadHole_6 : decode cX3_endsThreadHole 6 = .ok (.iload_n 2, 1) := by decide +kernel
theorem dX3_endsThreadHole_7 : decode cX3_endsThreadHole 7 = .ok (.bipush (-5), 2) := by decide +kernel
theorem dX3_endsThreadHole_9 : decode cX3_endsThreadHole 9 = .ok (.if_icmp .eq 27, 3) := by decide +kernel
theorem dX3_endsThreadHole_12 : decode cX3_endsThreadHole 12 = .ok (.aload_n 0, 1) := by decide +kernel
theorem dX3_endsThreadHole_13 : decode cX3_endsThreadHole 13 = .ok (.iload_n 1, 1) := by decide +kernel
theorem dX3_endsThreadHole_14 : decode cX3_endsThreadHole 14 = .ok (.invokevirtual 89, 3) := by decide +kernel
theorem dX3_endsThreadHole_17 : decode cX3_endsThreadHole 17 = .ok (.aload_n 0, 1) := by decide +kernel
theorem dX3_endsThreadHole_18 : decode cX3_endsThreadHole 18 = .ok (.iload_n 2, 1) := by decide +kernel
theorem dX3_endsThreadHole_19 : decode cX3_endsThreadHole 19 = .ok (.invokevirtual 89, 3) := by decide +kernel
theorem dX3_endsThreadHole_22 : decode cX3_endsThreadHole 22 = .ok (.isub, 1) := by decide +kernel
theorem dX3_endsThreadHole_23 : decode cX3_endsThreadHole 23 = .ok (.iconst 1, 1) := by decide +kernel
theorem dX3_endsThreadHole_24 : decode cX3_endsThreadHole 24 = .ok (.isub, 1) := by decide +kernel
theorem dX3_endsThreadHole_25 : decode cX3_endsThreadHole 25 = .ok (.aload_n 0, 1) := by decide +kernel
theorem dX3_endsThreadHole_26 : decode cX3_endsThreadHole 26 = .ok (.getfield 50, 3) := by decide +kernel
theorem dX3_endsThreadHole_29 : decode cX3_endsThreadHole 29 = .ok (.if_icmp .le 7, 3) := by decide +kernel
theorem dX3_endsThreadHole_32 : decode cX3_endsThreadHole 32 = .ok (.iconst 1, 1) := by decide +kernel
theorem dX3_endsThreadHole_33 : decode cX3_endsThreadHole 33 = .ok (.goto 4, 3) := by decide +kernel
theorem dX3_endsThreadHole_36 : decode cX3_endsThreadHole 36 = .ok (.iconst 0, 1) := by decide +kernel
theorem dX3_endsThreadHole_37 : decode cX3_endsThreadHole 37 = .ok (.ireturn, 1) := by decide +kernel
set_option maxRecDepth 20000 in
theorem ggX3_endsTimeHole_X3_valueAt : GoodIn wsX3_endsTimeHole wsX3_valueAt := goodIn_r _ [8, 9, 21, 22, 23, 24, 25, 26, 27, 28, 29, 30] (by decide +kernel) (by decide +kernel)
set_option maxRecDepth 20000 in
theorem gX3_endsTimeHole_X3_valueAt : GoodIn wsX3_endsTimeHole (wsV RX3 81 RX3 yX3_valueAt wsX3_valueAt) := goodIn_app (goodIn_of _ (by decide +kernel)) ggX3_endsTimeHole_X3_valueAt
set_option maxRecDepth 20000 in
theorem ggX3_endsTimeHole_X1_number : GoodIn wsX3_endsTimeHole wsX1_number := goodIn_r _ [14, 15, 16, 17, 18, 13, 19, 20, 31, 32] (by decide +kernel) (by decide +kernel)
set_option maxRecDepth 20000 in
theorem gX3_endsTimeHole_X1_number : GoodIn wsX3_endsTimeHole (wsV RX3 70 RX1 yX1_number wsX1_number) := goodIn_app (goodIn_of _ (by decide +kernel)) ggX3_endsTimeHole_X1_number
theorem dX3_endsTimeHole_0 : decode cX3_endsTimeHole 0 = .ok (.aload_n 0, 1) := by decide +kernel
theorem dX3_endsTimeHole_1 : decode cX3_endsTimeHole 1 = .ok (.aload_n 0, 1) := by decide +kernel
theorem dX3_endsTimeHole_2 : decode cX3_endsTimeHole 2 = .ok (.getfield 28, 3) := by decide +kernel
theorem dX3_endsTimeHole_5 : decode cX3_endsTimeHole 5 = .ok (.iload_n 1, 1) := by decide +kernel
theorem dX3_endsTimeHole_6 : decode cX3_endsTimeHole 6 = .ok (.invokevirtual 81, 3) := by decide +kernel
theorem dX3_endsTimeHole_9 : decode cX3_endsTimeHole 9 = .ok (.istore_n 2, 1) := by decide +kernel
theorem dX3_endsTimeHole_10 : decode cX3_endsTimeHole 10 = .ok (.iload_n 2, 1) := by decide +kernel
theorem dX3_endsTimeHole_11 : decode cX3_endsTimeHole 11 = .ok (.bipush (-5), 2) := by decide +kernel
theorem dX3_endsTimeHole_13 : decode cX3_endsTimeHole 13 = .ok (.if_icmp .eq 33, 3) := by decide +kernel
theorem dX3_endsTimeHole_16 : decode cX3_endsTimeHole 16 = .ok (.aload_n 0, 1) := by decide +kernel
theorem dX3_endsTimeHole_17 : decode cX3_endsTimeHole 17 = .ok (.getfield 12, 3) := by decide +kernel
theorem dX3_endsTimeHole_20 : decode cX3_endsTimeHole 20 = .ok (.iload_n 1, 1) := by decide +kernel
theorem dX3_endsTimeHole_21 : decode cX3_endsTimeHole 21 = .ok (.iconst 1, 1) := by decide +kernel
theorem dX3_endsTimeHole_22 : decode cX3_endsTimeHole 22 = .ok (.invokevirtual 70, 3) := by decide +kernel
theorem dX3_endsTimeHole_25 : decode cX3_endsTimeHole 25 = .ok (.aload_n 0, 1) := by decide +kernel
theorem dX3_endsTimeHole_26 : decode cX3_endsTimeHole 26 = .ok (.getfield 12, 3) := by decide +kernel
theorem dX3_endsTimeHole_29 : decode cX3_endsTimeHole 29 = .ok (.iload_n 2, 1) := by decide +kernel
theorem dX3_endsTimeHole_30 : decode cX3_endsTimeHole 30 = .ok (.iconst 1, 1) := by decide +kernel
theorem dX3_endsTimeHole_31 : decode cX3_endsTimeHole 31 = .ok (.invokevirtual 70, 3) := by decide +kernel
theorem dX3_endsTimeHole_34 : decode cX3_endsTimeHole 34 = .ok (.isub, 1) := by decide +kernel
theorem dX3_endsTimeHole_35 : decode cX3_endsTimeHole 35 = .ok (.aload_n 0, 1) := by decide +kernel
theorem dX3_endsTimeHole_36 : decode cX3_endsTimeHole 36 = .ok (.getfield 53, 3) := by decide +kernel
theorem dX3_endsTimeHole_39 : decode cX3_endsTimeHole 39 = .ok (.if_icmp .le 7, 3) := by decide +kernel
theorem dX3_endsTimeHole_42 : decode cX3_endsTimeHole 42 = .ok (.iconst 1, 1) := by decide +kernel
theorem dX3_endsTimeHole_43 : decode cX3_endsTimeHole 43 = .ok (.goto 4, 3) := by decide +kernel
theorem dX3_endsTimeHole_46 : decode cX3_endsTimeHole 46 = .ok (.iconst 0, 1) := by decide +kernel
theorem dX3_endsTimeHole_47 : decode cX3_endsTimeHole 47 = .ok (.ireturn, 1) := by decide +kernel
set_option maxRecDepth 20000 in
theorem ggX3_tally_X3_isOf : GoodIn wsX3_tally wsX3_isOf := goodIn_r _ [6, 7, 8, 9, 10, 11, 12, 13, 14, 15, 16, 17, 18, 56, 57, 58, 59, 60, 61, 62, 63, 64, 65, 66, 67] (by decide +kernel) (by decide +kernel)
set_option maxRecDepth 20000 in
theorem gX3_tally_X3_isOf : GoodIn wsX3_tally (wsV RX3 92 RX3 yX3_isOf wsX3_isOf) := goodIn_app (goodIn_of _ (by decide +kernel)) ggX3_tally_X3_isOf
set_option maxRecDepth 20000 in
theorem ggX3_tally_X3_sceneAt : GoodIn wsX3_tally wsX3_sceneAt := goodIn_r _ [22, 23, 24, 25, 26, 5, 27, 1, 56, 57, 58, 59, 60, 61, 62, 63, 64, 65] (by decide +kernel) (by decide +kernel)
set_option maxRecDepth 20000 in
theorem gX3_tally_X3_sceneAt : GoodIn wsX3_tally (wsV RX3 89 RX3 yX3_sceneAt wsX3_sceneAt) := goodIn_app (goodIn_of _ (by decide +kernel)) ggX3_tally_X3_sceneAt
set_option maxRecDepth 20000 in
theorem ggX3_tally_X3_worth : GoodIn wsX3_tally wsX3_worth := goodIn_r _ [31, 7, 8, 9, 10, 11, 12, 13, 14, 15, 16, 17, 18, 32, 33, 34, 5, 35, 36, 37, 38, 39, 40, 24, 25, 26, 27, 1, 41, 42, 43, 44, 45, 46, 47, 48, 49, 50, 19, 20, 21, 22, 23, 51, 52, 53, 54, 55, 56, 57, 58, 59, 60, 61, 62, 63, 64, 65, 66, 67] (by decide +kernel) (by decide +kernel)
set_option maxRecDepth 20000 in
theorem gX3_tally_X3_worth : GoodIn wsX3_tally (wsV RX3 96 RX3 yX3_worth wsX3_worth) := goodIn_app (goodIn_of _ (by decide +kernel)) ggX3_tally_X3_worth
theorem dX3_tally_0 : decode cX3_tally 0 = .ok (.iconst 0, 1) := by decide +kernel
theorem dX3_tally_1 : decode cX3_tally 1 = .ok (.istore 4, 2) := by decide +kernel
theorem dX3_tally_3 : decode cX3_tally 3 = .ok (.iconst 0, 1) := by decide +kernel
theorem dX3_tally_4 : decode cX3_tally 4 = .ok (.istore 5, 2) := by decide +kernel
theorem dX3_tally_6 : decode cX3_tally 6 = .ok (.iload 5, 2) := by decide +kernel
theorem dX3_tally_8 : decode cX3_tally 8 = .ok (.aload_n 0, 1) := by decide +kernel
theorem dX3_tally_9 : decode cX3_tally 9 = .ok (.getfield 37, 3) := by decide +kernel
theorem dX3_tally_12 : decode cX3_tally 12 = .ok (.if_icmp .ge 46, 3) := by decide +kernel
theorem dX3_tally_15 : decode cX3_tally 15 = .ok (.aload_n 0, 1) := by decide +kernel
theorem dX3_tally_16 : decode cX3_tally 16 = .ok (.iload 5, 2) := by decide +kernel
theorem dX3_tally_18 : decode cX3_tally 18 = .ok (.iload_n 2, 1) := by decide +kernel
theorem dX3_tally_19 : decode cX3_tally 19 = .ok (.invokevirtual 92, 3) := by decide +kernel
theorem dX3_tally_22 : decode cX3_tally 22 = .ok (.ifCond .eq 30, 3) := by decide +kernel
theorem dX3_tally_25 : decode cX3_tally 25 = .ok (.iload_n 3, 1) := by decide +kernel
theorem dX3_tally_26 : decode cX3_tally 26 = .ok (.iconst (-1), 1) := by decide +kernel
theorem dX3_tally_27 : decode cX3_tally 27 = .ok (.if_icmp .eq 13, 3) := by decide +kernel
theorem dX3_tally_30 : decode cX3_tally 30 = .ok (.aload_n 0, 1) := by decide +kernel
theorem dX3_tally_31 : decode cX3_tally 31 = .ok (.iload 5, 2) := by decide +kernel
theorem dX3_tally_33 : decode cX3_tally 33 = .ok (.invokevirtual 89, 3) := by decide +kernel
theorem dX3_tally_36 : decode cX3_tally 36 = .ok (.iload_n 3, 1) := by decide +kernel
theorem dX3_tally_37 : decode cX3_tally 37 = .ok (.if_icmp .ne 15, 3) := by decide +kernel
theorem dX3_tally_40 : decode cX3_tally 40 = .ok (.iload 4, 2) := by decide +kernel
theorem dX3_tally_42 : decode cX3_tally 42 = .ok (.aload_n 0, 1) := by decide +kernel
theorem dX3_tally_43 : decode cX3_tally 43 = .ok (.iload_n 1, 1) := by decide +kernel
theorem dX3_tally_44 : decode cX3_tally 44 = .ok (.iload 5, 2) := by decide +kernel
theorem dX3_tally_46 : decode cX3_tally 46 = .ok (.invokevirtual 96, 3) := by decide +kernel
theorem dX3_tally_49 : decode cX3_tally 49 = .ok (.iadd, 1) := by decide +kernel
theorem dX3_tally_50 : decode cX3_tally 50 = .ok (.istore 4, 2) := by decide +kernel
theorem dX3_tally_52 : decode cX3_tally 52 = .ok (.iinc 5 1, 3) := by decide +kernel
theorem dX3_tally_55 : decode cX3_tally 55 = .ok (.goto (-49), 3) := by decide +kernel
theorem dX3_tally_58 : decode cX3_tally 58 = .ok (.iload 4, 2) := by decide +kernel
theorem dX3_tally_60 : decode cX3_tally 60 = .ok (.ireturn, 1) := by decide +kernel
set_option maxRecDepth 20000 in
theorem ggX3_worth_X1_number : GoodIn wsX3_worth wsX1_number := goodIn_r _ [6, 7, 8, 9, 10, 5, 11, 12, 58, 59] (by decide +kernel) (by decide +kernel)
set_option maxRecDepth 20000 in
theorem gX3_worth_X1_number : GoodIn wsX3_worth (wsV RX3 70 RX1 yX1_number wsX1_number) := goodIn_app (goodIn_of _ (by decide +kernel)) ggX3_worth_X1_number
set_option maxRecDepth 20000 in
theorem ggX3_worth_X3_isStraight : GoodIn wsX3_worth wsX3_isStraight := goodIn_r _ [17, 1, 2, 3, 4, 5, 6, 7, 8, 9, 10, 11, 12, 48, 49, 50, 51, 52, 53, 54, 55, 56, 57, 58, 59] (by decide +kernel) (by decide +kernel)
set_option maxRecDepth 20000 in
theorem gX3_worth_X3_isStraight : GoodIn wsX3_worth (wsV RX3 99 RX3 yX3_isStraight wsX3_isStraight) := goodIn_app (goodIn_of _ (by decide +kernel)) ggX3_worth_X3_isStraight
set_option maxRecDepth 20000 in
theorem ggX3_worth_X3_isBreak : GoodIn wsX3_worth wsX3_isBreak := goodIn_r _ [21, 22, 1, 23, 24, 25, 16, 26, 27, 2, 3, 4, 5, 6, 7, 8, 9, 10, 11, 12, 48, 49, 50, 51, 52, 53, 54, 55, 56, 57, 58, 59] (by decide +kernel) (by decide +kernel)
set_option maxRecDepth 20000 in
theorem gX3_worth_X3_isBreak : GoodIn wsX3_worth (wsV RX3 102 RX3 yX3_isBreak wsX3_isBreak) := goodIn_app (goodIn_of _ (by decide +kernel)) ggX3_worth_X3_isBreak
set_option maxRecDepth 20000 in
theorem ggX3_worth_X3_endsThreadHole : GoodIn wsX3_worth wsX3_endsThreadHole := goodIn_r _ [31, 32, 33, 34, 35, 16, 36, 37, 23, 24, 25, 26, 27, 38, 39, 40, 41, 42, 48, 49, 50, 51, 52, 53, 54, 55, 56, 57] (by decide +kernel) (by decide +kernel)
set_option maxRecDepth 20000 in
theorem gX3_worth_X3_endsThreadHole : GoodIn wsX3_worth (wsV RX3 105 RX3 yX3_endsThreadHole wsX3_endsThreadHole) := goodIn_app (goodIn_of _ (by decide +kernel)) ggX3_worth_X3_endsThreadHole
set_option maxRecDepth 20000 in
theorem ggX3_worth_X3_endsTimeHole : GoodIn wsX3_worth wsX3_endsTimeHole := goodIn_r _ [46, 22, 1, 47, 23, 24, 25, 16, 26, 27, 2, 3, 4, 5, 6, 7, 8, 9, 10, 11, 12, 48, 49, 50, 51, 52, 53, 54, 55, 56, 57, 58, 59] (by decide +kernel) (by decide +kernel)
set_option maxRecDepth 20000 in
theorem gX3_worth_X3_endsTimeHole : GoodIn wsX3_worth (wsV RX3 108 RX3 yX3_endsTimeHole wsX3_endsTimeHole) := goodIn_app (goodIn_of _ (by decide +kernel)) ggX3_worth_X3_endsTimeHole
theorem dX3_worth_0 : decode cX3_worth 0 = .ok (.iload_n 1, 1) := by decide +kernel
theorem dX3_worth_1 : decode cX3_worth 1 = .ok (.tableswitch 135 2 14 #[69, 135, 135, 135, 135, 135, 135, 135, 67, 79, 93, 107, 121], 67) := by decide +kernel
theorem dX3_worth_68 : decode cX3_worth 68 = .ok (.iconst 1, 1) := by decide +kernel
theorem dX3_worth_69 : decode cX3_worth 69 = .ok (.ireturn, 1) := by decide +kernel
theorem dX3_worth_70 : decode cX3_worth 70 = .ok (.aload_n 0, 1) := by decide +kernel
theorem dX3_worth_71 : decode cX3_worth 71 = .ok (.getfield 12, 3) := by decide +kernel
theorem dX3_worth_74 : decode cX3_worth 74 = .ok (.iload_n 2, 1) := by decide +kernel
theorem dX3_worth_75 : decode cX3_worth 75 = .ok (.iconst 2, 1) := by decide +kernel
theorem dX3_worth_76 : decode cX3_worth 76 = .ok (.invokevirtual 70, 3) := by decide +kernel
theorem dX3_worth_79 : decode cX3_worth 79 = .ok (.ireturn, 1) := by decide +kernel
theorem dX3_worth_80 : decode cX3_worth 80 = .ok (.aload_n 0, 1) := by decide +kernel
theorem dX3_worth_81 : decode cX3_worth 81 = .ok (.iload_n 2, 1) := by decide +kernel
theorem dX3_worth_82 : decode cX3_worth 82 = .ok (.invokevirtual 99, 3) := by decide +kernel
theorem dX3_worth_85 : decode cX3_worth 85 = .ok (.ifCond .eq 7, 3) := by decide +kernel
theorem dX3_worth_88 : decode cX3_worth 88 = .ok (.iconst 1, 1) := by decide +kernel
theorem dX3_worth_89 : decode cX3_worth 89 = .ok (.goto 4, 3) := by decide +kernel
theorem dX3_worth_92 : decode cX3_worth 92 = .ok (.iconst 0, 1) := by decide +kernel
theorem dX3_worth_93 : decode cX3_worth 93 = .ok (.ireturn, 1) := by decide +kernel
theorem dX3_worth_94 : decode cX3_worth 94 = .ok (.aload_n 0, 1) := by decide +kernel
theorem dX3_worth_95 : decode cX3_worth 95 = .ok (.iload_n 2, 1) := by decide +kernel
theorem dX3_worth_96 : decode cX3_worth 96 = .ok (.invokevirtual 102, 3) := by decide +kernel
theorem dX3_worth_99 : decode cX3_worth 99 = .ok (.ifCond .eq 7, 3) := by decide +kernel
theorem dX3_worth_102 : decode cX3_worth 102 = .ok (.iconst 1, 1) := by decide +kernel
theorem dX3_worth_103 : decode cX3_worth 103 = .ok (.goto 4, 3) := by decide +kernel
theorem dX3_worth_106 : decode cX3_worth 106 = .ok (.iconst 0, 1) := by decide +kernel
theorem dX3_worth_107 : decode cX3_worth 107 = .ok (.ireturn, 1) := by decide +kernel
theorem dX3_worth_108 : decode cX3_worth 108 = .ok (.aload_n 0, 1) := by decide +kernel
theorem dX3_worth_109 : decode cX3_worth 109 = .ok (.iload_n 2, 1) := by decide +kernel
theorem dX3_worth_110 : decode cX3_worth 110 = .ok (.invokevirtual 105, 3) := by decide +kernel
theorem dX3_worth_113 : decode cX3_worth 113 = .ok (.ifCond .eq 7, 3) := by decide +kernel
theorem dX3_worth_116 : decode cX3_worth 116 = .ok (.iconst 1, 1) := by decide +kernel
theorem dX3_worth_117 : decode cX3_worth 117 = .ok (.goto 4, 3) := by decide +kernel
theorem dX3_worth_120 : decode cX3_worth 120 = .ok (.iconst 0, 1) := by decide +kernel
theorem dX3_worth_121 : decode cX3_worth 121 = .ok (.ireturn, 1) := by decide +kernel
theorem dX3_worth_122 : decode cX3_worth 122 = .ok (.aload_n 0, 1) := by decide +kernel
theorem dX3_worth_123 : decode cX3_worth 123 = .ok (.iload_n 2, 1) := by decide +kernel
theorem dX3_worth_124 : decode cX3_worth 124 = .ok (.invokevirtual 108, 3) := by decide +kernel
theorem dX3_worth_127 : decode cX3_worth 127 = .ok (.ifCond .eq 7, 3) := by decide +kernel
theorem dX3_worth_130 : decode cX3_worth 130 = .ok (.iconst 1, 1) := by decide +kernel
theorem dX3_worth_131 : decode cX3_worth 131 = .ok (.goto 4, 3) := by decide +kernel
theorem dX3_worth_134 : decode cX3_worth 134 = .ok (.iconst 0, 1) := by decide +kernel
theorem dX3_worth_135 : decode cX3_worth 135 = .ok (.ireturn, 1) := by decide +kernel
theorem dX3_worth_136 : decode cX3_worth 136 = .ok (.iconst 0, 1) := by decide +kernel
theorem dX3_worth_137 : decode cX3_worth 137 = .ok (.ireturn, 1) := by decide +kernel
set_option maxRecDepth 20000 in
theorem ggX3_threadsIn_X3_sceneAt : GoodIn wsX3_threadsIn wsX3_sceneAt := goodIn_r _ [7, 8, 9, 10, 11, 6, 12, 1, 24, 25, 26, 27, 28, 29, 30, 31, 32, 33] (by decide +kernel) (by decide +kernel)
set_option maxRecDepth 20000 in
theorem gX3_threadsIn_X3_sceneAt : GoodIn wsX3_threadsIn (wsV RX3 89 RX3 yX3_sceneAt wsX3_sceneAt) := goodIn_app (goodIn_of _ (by decide +kernel)) ggX3_threadsIn_X3_sceneAt
set_option maxRecDepth 20000 in
theorem ggX3_threadsIn_X1_number : GoodIn wsX3_threadsIn wsX1_number := goodIn_r _ [17, 18, 19, 20, 21, 16, 22, 23, 34, 35] (by decide +kernel) (by decide +kernel)
set_option maxRecDepth 20000 in
theorem gX3_threadsIn_X1_number : GoodIn wsX3_threadsIn (wsV RX3 70 RX1 yX1_number wsX1_number) := goodIn_app (goodIn_of _ (by decide +kernel)) ggX3_threadsIn_X1_number
theorem dX3_threadsIn_0 : decode cX3_threadsIn 0 = .ok (.iconst 0, 1) := by decide +kernel
theorem dX3_threadsIn_1 : decode cX3_threadsIn 1 = .ok (.istore_n 2, 1) := by decide +kernel
theorem dX3_threadsIn_2 : decode cX3_threadsIn 2 = .ok (.iconst 0, 1) := by decide +kernel
theorem dX3_threadsIn_3 : decode cX3_threadsIn 3 = .ok (.istore_n 3, 1) := by decide +kernel
theorem dX3_threadsIn_4 : decode cX3_threadsIn 4 = .ok (.iload_n 3, 1) := by decide +kernel
theorem dX3_threadsIn_5 : decode cX3_threadsIn 5 = .ok (.aload_n 0, 1) := by decide +kernel
theorem dX3_threadsIn_6 : decode cX3_threadsIn 6 = .ok (.getfield 37, 3) := by decide +kernel
theorem dX3_threadsIn_9 : decode cX3_threadsIn 9 = .ok (.if_icmp .ge 32, 3) := by decide +kernel
theorem dX3_threadsIn_12 : decode cX3_threadsIn 12 = .ok (.aload_n 0, 1) := by decide +kernel
theorem dX3_threadsIn_13 : decode cX3_threadsIn 13 = .ok (.iload_n 3, 1) := by decide +kernel
theorem dX3_threadsIn_14 : decode cX3_threadsIn 14 = .ok (.invokevirtual 89, 3) := by decide +kernel
theorem dX3_threadsIn_17 : decode cX3_threadsIn 17 = .ok (.iload_n 1, 1) := by decide +kernel
theorem dX3_threadsIn_18 : decode cX3_threadsIn 18 = .ok (.if_icmp .ne 17, 3) := by decide +kernel
theorem dX3_threadsIn_21 : decode cX3_threadsIn 21 = .ok (.iload_n 2, 1) := by decide +kernel
theorem dX3_threadsIn_22 : decode cX3_threadsIn 22 = .ok (.iconst 1, 1) := by decide +kernel
theorem dX3_threadsIn_23 : decode cX3_threadsIn 23 = .ok (.aload_n 0, 1) := by decide +kernel
theorem dX3_threadsIn_24 : decode cX3_threadsIn 24 = .ok (.getfield 12, 3) := by decide +kernel
theorem dX3_threadsIn_27 : decode cX3_threadsIn 27 = .ok (.iload_n 3, 1) := by decide +kernel
theorem dX3_threadsIn_28 : decode cX3_threadsIn 28 = .ok (.iconst 0, 1) := by decide +kernel
theorem dX3_threadsIn_29 : decode cX3_threadsIn 29 = .ok (.invokevirtual 70, 3) := by decide +kernel
theorem dX3_threadsIn_32 : decode cX3_threadsIn 32 = .ok (.ishl, 1) := by decide +kernel
theorem dX3_threadsIn_33 : decode cX3_threadsIn 33 = .ok (.ior, 1) := by decide +kernel
theorem dX3_threadsIn_34 : decode cX3_threadsIn 34 = .ok (.istore_n 2, 1) := by decide +kernel
theorem dX3_threadsIn_35 : decode cX3_threadsIn 35 = .ok (.iinc 3 1, 3) := by decide +kernel
theorem dX3_threadsIn_38 : decode cX3_threadsIn 38 = .ok (.goto (-34), 3) := by decide +kernel
theorem dX3_threadsIn_41 : decode cX3_threadsIn 41 = .ok (.iload_n 2, 1) := by decide +kernel
theorem dX3_threadsIn_42 : decode cX3_threadsIn 42 = .ok (.ireturn, 1) := by decide +kernel
set_option maxRecDepth 20000 in
theorem ggX3_breakNumber_X3_isBreak : GoodIn wsX3_breakNumber wsX3_isBreak := goodIn_r _ [6, 7, 8, 9, 10, 11, 5, 12, 1, 13, 14, 15, 16, 17, 18, 19, 20, 21, 22, 23, 29, 30, 31, 32, 33, 34, 35, 36, 37, 38, 39, 40] (by decide +kernel) (by decide +kernel)
set_option maxRecDepth 20000 in
theorem gX3_breakNumber_X3_isBreak : GoodIn wsX3_breakNumber (wsV RX3 102 RX3 yX3_isBreak wsX3_isBreak) := goodIn_app (goodIn_of _ (by decide +kernel)) ggX3_breakNumber_X3_isBreak
set_option maxRecDepth 20000 in
theorem ggX3_breakNumber_X3_cardAt : GoodIn wsX3_breakNumber wsX3_cardAt := goodIn_r _ [27, 28, 9, 10, 11, 5, 12, 1, 29, 30, 31, 32, 33, 34, 35, 36, 37, 38] (by decide +kernel) (by decide +kernel)
set_option maxRecDepth 20000 in
theorem gX3_breakNumber_X3_cardAt : GoodIn wsX3_breakNumber (wsV RX3 85 RX3 yX3_cardAt wsX3_cardAt) := goodIn_app (goodIn_of _ (by decide +kernel)) ggX3_breakNumber_X3_cardAt
theorem dX3_breakNumber_0 : decode cX3_breakNumber 0 = .ok (.iconst 0, 1) := by decide +kernel
theorem dX3_breakNumber_1 : decode cX3_breakNumber 1 = .ok (.istore_n 2, 1) := by decide +kernel
theorem dX3_breakNumber_2 : decode cX3_breakNumber 2 = .ok (.iconst 0, 1) := by decide +kernel
theorem dX3_breakNumber_3 : decode cX3_breakNumber 3 = .ok (.istore_n 3, 1) := by decide +kernel
theorem dX3_breakNumber_4 : decode cX3_breakNumber 4 = .ok (.iload_n 3, 1) := by decide +kernel
theorem dX3_breakNumber_5 : decode cX3_breakNumber 5 = .ok (.aload_n 0, 1) := by decide +kernel
theorem dX3_breakNumber_6 : decode cX3_breakNumber 6 = .ok (.getfield 37, 3) := by decide +kernel
theorem dX3_breakNumber_9 : decode cX3_breakNumber 9 = .ok (.if_icmp .ge 31, 3) := by decide +kernel
theorem dX3_breakNumber_12 : decode cX3_breakNumber 12 = .ok (.aload_n 0, 1) := by decide +kernel
theorem dX3_breakNumber_13 : decode cX3_breakNumber 13 = .ok (.iload_n 3, 1) := by decide +kernel
theorem dX3_breakNumber_14 : decode cX3_breakNumber 14 = .ok (.invokevirtual 102, 3) := by decide +kernel
theorem dX3_breakNumber_17 : decode cX3_breakNumber 17 = .ok (.ifCond .eq 17, 3) := by decide +kernel
theorem dX3_breakNumber_20 : decode cX3_breakNumber 20 = .ok (.iload_n 2, 1) := by decide +kernel
theorem dX3_breakNumber_21 : decode cX3_breakNumber 21 = .ok (.iload_n 1, 1) := by decide +kernel
theorem dX3_breakNumber_22 : decode cX3_breakNumber 22 = .ok (.if_icmp .ne 9, 3) := by decide +kernel
theorem dX3_breakNumber_25 : decode cX3_breakNumber 25 = .ok (.aload_n 0, 1) := by decide +kernel
theorem dX3_breakNumber_26 : decode cX3_breakNumber 26 = .ok (.iload_n 3, 1) := by decide +kernel
theorem dX3_breakNumber_27 : decode cX3_breakNumber 27 = .ok (.invokevirtual 85, 3) := by decide +kernel
theorem dX3_breakNumber_30 : decode cX3_breakNumber 30 = .ok (.ireturn, 1) := by decide +kernel
theorem dX3_breakNumber_31 : decode cX3_breakNumber 31 = .ok (.iinc 2 1, 3) := by decide +kernel
theorem dX3_breakNumber_34 : decode cX3_breakNumber 34 = .ok (.iinc 3 1, 3) := by decide +kernel
theorem dX3_breakNumber_37 : decode cX3_breakNumber 37 = .ok (.goto (-33), 3) := by decide +kernel
theorem dX3_breakNumber_40 : decode cX3_breakNumber 40 = .ok (.bipush (-5), 2) := by decide +kernel
theorem dX3_breakNumber_42 : decode cX3_breakNumber 42 = .ok (.ireturn, 1) := by decide +kernel
set_option maxRecDepth 20000 in
theorem ggX4_init_X1_init : GoodIn wsX4_init wsX1_init := goodIn_r _ [15, 16, 2, 3, 12, 17, 23, 24] (by decide +kernel) (by decide +kernel)
set_option maxRecDepth 20000 in
theorem gX4_init_X1_init_n11 : GoodIn wsX4_init (wsX1_init) := ggX4_init_X1_init
set_option maxRecDepth 20000 in
theorem ggX4_init_X7_init : GoodIn wsX4_init wsX7_init := goodIn_r _ [20, 21, 2, 3, 12, 22, 28] (by decide +kernel) (by decide +kernel)
set_option maxRecDepth 20000 in
theorem gX4_init_X7_init : GoodIn wsX4_init (wsX7_init) := ggX4_init_X7_init
theorem dX4_init_0 : decode cX4_init 0 = .ok (.aload_n 0, 1) := by decide +kernel
theorem dX4_init_1 : decode cX4_init 1 = .ok (.invokespecial 3, 3) := by decide +kernel
theorem dX4_init_4 : decode cX4_init 4 = .ok (.aload_n 0, 1) := by decide +kernel
theorem dX4_init_5 : decode cX4_init 5 = .ok (.new 9, 3) := by decide +kernel
theorem dX4_init_8 : decode cX4_init 8 = .ok (.dup, 1) := by decide +kernel
theorem dX4_init_9 : decode cX4_init 9 = .ok (.invokespecial 11, 3) := by decide +kernel
theorem dX4_init_12 : decode cX4_init 12 = .ok (.putfield 12, 3) := by decide +kernel
theorem dX4_init_15 : decode cX4_init 15 = .ok (.aload_n 0, 1) := by decide +kernel
theorem dX4_init_16 : decode cX4_init 16 = .ok (.new 18, 3) := by decide +kernel
theorem dX4_init_19 : decode cX4_init 19 = .ok (.dup, 1) := by decide +kernel
theorem dX4_init_20 : decode cX4_init 20 = .ok (.invokespecial 20, 3) := by decide +kernel
theorem dX4_init_23 : decode cX4_init 23 = .ok (.putfield 21, 3) := by decide +kernel
theorem dX4_init_26 : decode cX4_init 26 = .ok (.aload_n 0, 1) := by decide +kernel
theorem dX4_init_27 : decode cX4_init 27 = .ok (.iconst 3, 1) := by decide +kernel
theorem dX4_init_28 : decode cX4_init 28 = .ok (.newarray .int, 2) := by decide +kernel
theorem dX4_init_30 : decode cX4_init 30 = .ok (.dup, 1) := by decide +kernel
theorem dX4_init_31 : decode cX4_init 31 = .ok (.iconst 0, 1) := by decide +kernel
theorem dX4_init_32 : decode cX4_init 32 = .ok (.iconst 3, 1) := by decide +kernel
theorem dX4_init_33 : decode cX4_init 33 = .ok (.iastore, 1) := by decide +kernel
theorem dX4_init_34 : decode cX4_init 34 = .ok (.dup, 1) := by decide +kernel
theorem dX4_init_35 : decode cX4_init 35 = .ok (.iconst 1, 1) := by decide +kernel
theorem dX4_init_36 : decode cX4_init 36 = .ok (.bipush 100, 2) := by decide +kernel
theorem dX4_init_38 : decode cX4_init 38 = .ok (.iastore, 1) := by decide +kernel
theorem dX4_init_39 : decode cX4_init 39 = .ok (.dup, 1) := by decide +kernel
theorem dX4_init_40 : decode cX4_init 40 = .ok (.iconst 2, 1) := by decide +kernel
theorem dX4_init_41 : decode cX4_init 41 = .ok (.bipush 100, 2) := by decide +kernel
theorem dX4_init_43 : decode cX4_init 43 = .ok (.iastore, 1) := by decide +kernel
theorem dX4_init_44 : decode cX4_init 44 = .ok (.putfield 25, 3) := by decide +kernel
theorem dX4_init_47 : decode cX4_init 47 = .ok (.return_, 1) := by decide +kernel
set_option maxRecDepth 20000 in
theorem ggX4_copyFrom_X1_copyFrom : GoodIn wsX4_copyFrom wsX1_copyFrom := goodIn_r _ [12, 13, 14, 5, 6, 7, 15, 26, 27] (by decide +kernel) (by decide +kernel)
set_option maxRecDepth 20000 in
theorem gX4_copyFrom_X1_copyFrom : GoodIn wsX4_copyFrom (wsV RX4 29 RX1 yX1_copyFrom wsX1_copyFrom) := goodIn_app (goodIn_of _ (by decide +kernel)) ggX4_copyFrom_X1_copyFrom
set_option maxRecDepth 20000 in
theorem ggX4_copyFrom_X7_copyFrom : GoodIn wsX4_copyFrom wsX7_copyFrom := goodIn_r _ [20, 21, 22, 5, 6, 7, 28] (by decide +kernel) (by decide +kernel)
set_option maxRecDepth 20000 in
theorem gX4_copyFrom_X7_copyFrom : GoodIn wsX4_copyFrom (wsV RX4 33 RX7 yX7_copyFrom wsX7_copyFrom) := goodIn_app (goodIn_of _ (by decide +kernel)) ggX4_copyFrom_X7_copyFrom
theorem dX4_copyFrom_0 : decode cX4_copyFrom 0 = .ok (.aload_n 0, 1) := by decide +kernel
theorem dX4_copyFrom_1 : decode cX4_copyFrom 1 = .ok (.getfield 12, 3) := by decide +kernel
theorem dX4_copyFrom_4 : decode cX4_copyFrom 4 = .ok (.aload_n 1, 1) := by decide +kernel
theorem dX4_copyFrom_5 : decode cX4_copyFrom 5 = .ok (.getfield 12, 3) := by decide +kernel
theorem dX4_copyFrom_8 : decode cX4_copyFrom 8 = .ok (.invokevirtual 29, 3) := by decide +kernel
