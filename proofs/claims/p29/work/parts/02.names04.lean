theorem dX7_takeOff_0 : decode cX7_takeOff 0 = .ok (.aload_n 0, 1) := by decide +kernel
theorem dX7_takeOff_1 : decode cX7_takeOff 1 = .ok (.iload_n 1, 1) := by decide +kernel
theorem dX7_takeOff_2 : decode cX7_takeOff 2 = .ok (.invokevirtual 39, 3) := by decide +kernel
theorem dX7_takeOff_5 : decode cX7_takeOff 5 = .ok (.istore_n 2, 1) := by decide +kernel
theorem dX7_takeOff_6 : decode cX7_takeOff 6 = .ok (.iload_n 2, 1) := by decide +kernel
theorem dX7_takeOff_7 : decode cX7_takeOff 7 = .ok (.bipush (-5), 2) := by decide +kernel
theorem dX7_takeOff_9 : decode cX7_takeOff 9 = .ok (.if_icmp .ne 4, 3) := by decide +kernel
theorem dX7_takeOff_12 : decode cX7_takeOff 12 = .ok (.return_, 1) := by decide +kernel
theorem dX7_takeOff_13 : decode cX7_takeOff 13 = .ok (.iload_n 2, 1) := by decide +kernel
theorem dX7_takeOff_14 : decode cX7_takeOff 14 = .ok (.bipush 6, 2) := by decide +kernel
theorem dX7_takeOff_16 : decode cX7_takeOff 16 = .ok (.idiv, 1) := by decide +kernel
theorem dX7_takeOff_17 : decode cX7_takeOff 17 = .ok (.iconst 5, 1) := by decide +kernel
theorem dX7_takeOff_18 : decode cX7_takeOff 18 = .ok (.invokestatic 25, 3) := by decide +kernel
theorem dX7_takeOff_21 : decode cX7_takeOff 21 = .ok (.istore_n 3, 1) := by decide +kernel
theorem dX7_takeOff_22 : decode cX7_takeOff 22 = .ok (.iload_n 2, 1) := by decide +kernel
theorem dX7_takeOff_23 : decode cX7_takeOff 23 = .ok (.istore 4, 2) := by decide +kernel
theorem dX7_takeOff_25 : decode cX7_takeOff 25 = .ok (.iload 4, 2) := by decide +kernel
theorem dX7_takeOff_27 : decode cX7_takeOff 27 = .ok (.iload_n 3, 1) := by decide +kernel
theorem dX7_takeOff_28 : decode cX7_takeOff 28 = .ok (.if_icmp .ge 23, 3) := by decide +kernel
theorem dX7_takeOff_31 : decode cX7_takeOff 31 = .ok (.aload_n 0, 1) := by decide +kernel
theorem dX7_takeOff_32 : decode cX7_takeOff 32 = .ok (.iload 4, 2) := by decide +kernel
theorem dX7_takeOff_34 : decode cX7_takeOff 34 = .ok (.aload_n 0, 1) := by decide +kernel
theorem dX7_takeOff_35 : decode cX7_takeOff 35 = .ok (.iload 4, 2) := by decide +kernel
theorem dX7_takeOff_37 : decode cX7_takeOff 37 = .ok (.iconst 1, 1) := by decide +kernel
theorem dX7_takeOff_38 : decode cX7_takeOff 38 = .ok (.iadd, 1) := by decide +kernel
theorem dX7_takeOff_39 : decode cX7_takeOff 39 = .ok (.invokevirtual 29, 3) := by decide +kernel
theorem dX7_takeOff_42 : decode cX7_takeOff 42 = .ok (.invokevirtual 42, 3) := by decide +kernel
theorem dX7_takeOff_45 : decode cX7_takeOff 45 = .ok (.iinc 4 1, 3) := by decide +kernel
theorem dX7_takeOff_48 : decode cX7_takeOff 48 = .ok (.goto (-23), 3) := by decide +kernel
theorem dX7_takeOff_51 : decode cX7_takeOff 51 = .ok (.aload_n 0, 1) := by decide +kernel
theorem dX7_takeOff_52 : decode cX7_takeOff 52 = .ok (.iload_n 3, 1) := by decide +kernel
theorem dX7_takeOff_53 : decode cX7_takeOff 53 = .ok (.bipush (-5), 2) := by decide +kernel
theorem dX7_takeOff_55 : decode cX7_takeOff 55 = .ok (.invokevirtual 42, 3) := by decide +kernel
theorem dX7_takeOff_58 : decode cX7_takeOff 58 = .ok (.return_, 1) := by decide +kernel
set_option maxRecDepth 20000 in
theorem ggX7_putIn_X8_slot : GoodIn wsX7_putIn wsX8_slot := goodIn_r _ [3] (by decide +kernel) (by decide +kernel)
set_option maxRecDepth 20000 in
theorem gX7_putIn_X8_slot_n25 : GoodIn wsX7_putIn (wsX8_slot) := ggX7_putIn_X8_slot
set_option maxRecDepth 20000 in
theorem ggX7_putIn_X7_cardAt : GoodIn wsX7_putIn wsX7_cardAt := goodIn_r _ [8, 9, 14] (by decide +kernel) (by decide +kernel)
set_option maxRecDepth 20000 in
theorem gX7_putIn_X7_cardAt : GoodIn wsX7_putIn (wsV RX7 29 RX7 yX7_cardAt wsX7_cardAt) := goodIn_app (goodIn_of _ (by decide +kernel)) ggX7_putIn_X7_cardAt
set_option maxRecDepth 20000 in
theorem ggX7_putIn_X7_put : GoodIn wsX7_putIn wsX7_put := goodIn_r _ [13, 9, 14] (by decide +kernel) (by decide +kernel)
set_option maxRecDepth 20000 in
theorem gX7_putIn_X7_put : GoodIn wsX7_putIn (wsV RX7 42 RX7 yX7_put wsX7_put) := goodIn_app (goodIn_of _ (by decide +kernel)) ggX7_putIn_X7_put
theorem dX7_putIn_0 : decode cX7_putIn 0 = .ok (.iload_n 2, 1) := by decide +kernel
theorem dX7_putIn_1 : decode cX7_putIn 1 = .ok (.iload_n 3, 1) := by decide +kernel
theorem dX7_putIn_2 : decode cX7_putIn 2 = .ok (.invokestatic 25, 3) := by decide +kernel
theorem dX7_putIn_5 : decode cX7_putIn 5 = .ok (.istore 4, 2) := by decide +kernel
theorem dX7_putIn_7 : decode cX7_putIn 7 = .ok (.iload_n 2, 1) := by decide +kernel
theorem dX7_putIn_8 : decode cX7_putIn 8 = .ok (.iconst 5, 1) := by decide +kernel
theorem dX7_putIn_9 : decode cX7_putIn 9 = .ok (.invokestatic 25, 3) := by decide +kernel
theorem dX7_putIn_12 : decode cX7_putIn 12 = .ok (.istore 5, 2) := by decide +kernel
theorem dX7_putIn_14 : decode cX7_putIn 14 = .ok (.iload 5, 2) := by decide +kernel
theorem dX7_putIn_16 : decode cX7_putIn 16 = .ok (.iload 4, 2) := by decide +kernel
theorem dX7_putIn_18 : decode cX7_putIn 18 = .ok (.if_icmp .le 23, 3) := by decide +kernel
theorem dX7_putIn_21 : decode cX7_putIn 21 = .ok (.aload_n 0, 1) := by decide +kernel
theorem dX7_putIn_22 : decode cX7_putIn 22 = .ok (.iload 5, 2) := by decide +kernel
theorem dX7_putIn_24 : decode cX7_putIn 24 = .ok (.aload_n 0, 1) := by decide +kernel
theorem dX7_putIn_25 : decode cX7_putIn 25 = .ok (.iload 5, 2) := by decide +kernel
theorem dX7_putIn_27 : decode cX7_putIn 27 = .ok (.iconst 1, 1) := by decide +kernel
theorem dX7_putIn_28 : decode cX7_putIn 28 = .ok (.isub, 1) := by decide +kernel
theorem dX7_putIn_29 : decode cX7_putIn 29 = .ok (.invokevirtual 29, 3) := by decide +kernel
theorem dX7_putIn_32 : decode cX7_putIn 32 = .ok (.invokevirtual 42, 3) := by decide +kernel
theorem dX7_putIn_35 : decode cX7_putIn 35 = .ok (.iinc 5 (-1), 3) := by decide +kernel
theorem dX7_putIn_38 : decode cX7_putIn 38 = .ok (.goto (-24), 3) := by decide +kernel
theorem dX7_putIn_41 : decode cX7_putIn 41 = .ok (.aload_n 0, 1) := by decide +kernel
theorem dX7_putIn_42 : decode cX7_putIn 42 = .ok (.iload 4, 2) := by decide +kernel
theorem dX7_putIn_44 : decode cX7_putIn 44 = .ok (.iload_n 1, 1) := by decide +kernel
theorem dX7_putIn_45 : decode cX7_putIn 45 = .ok (.invokevirtual 42, 3) := by decide +kernel
theorem dX7_putIn_48 : decode cX7_putIn 48 = .ok (.return_, 1) := by decide +kernel
set_option maxRecDepth 20000 in
theorem ggX7_exchange_X7_cardAt : GoodIn wsX7_exchange wsX7_cardAt := goodIn_r _ [5, 6, 11] (by decide +kernel) (by decide +kernel)
set_option maxRecDepth 20000 in
theorem gX7_exchange_X7_cardAt : GoodIn wsX7_exchange (wsV RX7 29 RX7 yX7_cardAt wsX7_cardAt) := goodIn_app (goodIn_of _ (by decide +kernel)) ggX7_exchange_X7_cardAt
set_option maxRecDepth 20000 in
theorem ggX7_exchange_X7_put : GoodIn wsX7_exchange wsX7_put := goodIn_r _ [10, 6, 11] (by decide +kernel) (by decide +kernel)
set_option maxRecDepth 20000 in
theorem gX7_exchange_X7_put : GoodIn wsX7_exchange (wsV RX7 42 RX7 yX7_put wsX7_put) := goodIn_app (goodIn_of _ (by decide +kernel)) ggX7_exchange_X7_put
theorem dX7_exchange_0 : decode cX7_exchange 0 = .ok (.aload_n 0, 1) := by decide +kernel
theorem dX7_exchange_1 : decode cX7_exchange 1 = .ok (.iload_n 1, 1) := by decide +kernel
theorem dX7_exchange_2 : decode cX7_exchange 2 = .ok (.invokevirtual 29, 3) := by decide +kernel
theorem dX7_exchange_5 : decode cX7_exchange 5 = .ok (.istore_n 3, 1) := by decide +kernel
theorem dX7_exchange_6 : decode cX7_exchange 6 = .ok (.aload_n 0, 1) := by decide +kernel
theorem dX7_exchange_7 : decode cX7_exchange 7 = .ok (.iload_n 1, 1) := by decide +kernel
theorem dX7_exchange_8 : decode cX7_exchange 8 = .ok (.aload_n 0, 1) := by decide +kernel
theorem dX7_exchange_9 : decode cX7_exchange 9 = .ok (.iload_n 2, 1) := by decide +kernel
theorem dX7_exchange_10 : decode cX7_exchange 10 = .ok (.invokevirtual 29, 3) := by decide +kernel
theorem dX7_exchange_13 : decode cX7_exchange 13 = .ok (.invokevirtual 42, 3) := by decide +kernel
theorem dX7_exchange_16 : decode cX7_exchange 16 = .ok (.aload_n 0, 1) := by decide +kernel
theorem dX7_exchange_17 : decode cX7_exchange 17 = .ok (.iload_n 2, 1) := by decide +kernel
theorem dX7_exchange_18 : decode cX7_exchange 18 = .ok (.iload_n 3, 1) := by decide +kernel
theorem dX7_exchange_19 : decode cX7_exchange 19 = .ok (.invokevirtual 42, 3) := by decide +kernel
theorem dX7_exchange_22 : decode cX7_exchange 22 = .ok (.return_, 1) := by decide +kernel
set_option maxRecDepth 20000 in
theorem ggX7_exchangeScenes_X8_slot : GoodIn wsX7_exchangeScenes wsX8_slot := goodIn_r _ [3] (by decide +kernel) (by decide +kernel)
set_option maxRecDepth 20000 in
theorem gX7_exchangeScenes_X8_slot_n25 : GoodIn wsX7_exchangeScenes (wsX8_slot) := ggX7_exchangeScenes_X8_slot
set_option maxRecDepth 20000 in
theorem ggX7_exchangeScenes_X7_exchange : GoodIn wsX7_exchangeScenes wsX7_exchange := goodIn_r _ [8, 9, 10, 11, 7, 12, 13, 14, 15, 16, 17, 18] (by decide +kernel) (by decide +kernel)
set_option maxRecDepth 20000 in
theorem gX7_exchangeScenes_X7_exchange : GoodIn wsX7_exchangeScenes (wsV RX7 46 RX7 yX7_exchange wsX7_exchange) := goodIn_app (goodIn_of _ (by decide +kernel)) ggX7_exchangeScenes_X7_exchange
theorem dX7_exchangeScenes_0 : decode cX7_exchangeScenes 0 = .ok (.iconst 0, 1) := by decide +kernel
theorem dX7_exchangeScenes_1 : decode cX7_exchangeScenes 1 = .ok (.istore_n 3, 1) := by decide +kernel
theorem dX7_exchangeScenes_2 : decode cX7_exchangeScenes 2 = .ok (.iload_n 3, 1) := by decide +kernel
theorem dX7_exchangeScenes_3 : decode cX7_exchangeScenes 3 = .ok (.bipush 6, 2) := by decide +kernel
theorem dX7_exchangeScenes_5 : decode cX7_exchangeScenes 5 = .ok (.if_icmp .ge 23, 3) := by decide +kernel
theorem dX7_exchangeScenes_8 : decode cX7_exchangeScenes 8 = .ok (.aload_n 0, 1) := by decide +kernel
theorem dX7_exchangeScenes_9 : decode cX7_exchangeScenes 9 = .ok (.iload_n 1, 1) := by decide +kernel
theorem dX7_exchangeScenes_10 : decode cX7_exchangeScenes 10 = .ok (.iload_n 3, 1) := by decide +kernel
theorem dX7_exchangeScenes_11 : decode cX7_exchangeScenes 11 = .ok (.invokestatic 25, 3) := by decide +kernel
theorem dX7_exchangeScenes_14 : decode cX7_exchangeScenes 14 = .ok (.iload_n 2, 1) := by decide +kernel
theorem dX7_exchangeScenes_15 : decode cX7_exchangeScenes 15 = .ok (.iload_n 3, 1) := by decide +kernel
theorem dX7_exchangeScenes_16 : decode cX7_exchangeScenes 16 = .ok (.invokestatic 25, 3) := by decide +kernel
theorem dX7_exchangeScenes_19 : decode cX7_exchangeScenes 19 = .ok (.invokevirtual 46, 3) := by decide +kernel
theorem dX7_exchangeScenes_22 : decode cX7_exchangeScenes 22 = .ok (.iinc 3 1, 3) := by decide +kernel
theorem dX7_exchangeScenes_25 : decode cX7_exchangeScenes 25 = .ok (.goto (-23), 3) := by decide +kernel
theorem dX7_exchangeScenes_28 : decode cX7_exchangeScenes 28 = .ok (.return_, 1) := by decide +kernel
set_option maxRecDepth 20000 in
theorem ggX7_scenesWithCards_X7_sizeOf : GoodIn wsX7_scenesWithCards wsX7_sizeOf := goodIn_r _ [5, 6, 7, 8, 4, 9, 10, 11, 12, 13, 14, 15, 16, 17, 18, 19, 20] (by decide +kernel) (by decide +kernel)
set_option maxRecDepth 20000 in
theorem gX7_scenesWithCards_X7_sizeOf : GoodIn wsX7_scenesWithCards (wsV RX7 49 RX7 yX7_sizeOf wsX7_sizeOf) := goodIn_app (goodIn_of _ (by decide +kernel)) ggX7_scenesWithCards_X7_sizeOf
theorem dX7_scenesWithCards_0 : decode cX7_scenesWithCards 0 = .ok (.iconst 0, 1) := by decide +kernel
theorem dX7_scenesWithCards_1 : decode cX7_scenesWithCards 1 = .ok (.istore_n 1, 1) := by decide +kernel
theorem dX7_scenesWithCards_2 : decode cX7_scenesWithCards 2 = .ok (.iconst 0, 1) := by decide +kernel
theorem dX7_scenesWithCards_3 : decode cX7_scenesWithCards 3 = .ok (.istore_n 2, 1) := by decide +kernel
theorem dX7_scenesWithCards_4 : decode cX7_scenesWithCards 4 = .ok (.iload_n 2, 1) := by decide +kernel
theorem dX7_scenesWithCards_5 : decode cX7_scenesWithCards 5 = .ok (.bipush 16, 2) := by decide +kernel
theorem dX7_scenesWithCards_7 : decode cX7_scenesWithCards 7 = .ok (.if_icmp .ge 20, 3) := by decide +kernel
theorem dX7_scenesWithCards_10 : decode cX7_scenesWithCards 10 = .ok (.aload_n 0, 1) := by decide +kernel
theorem dX7_scenesWithCards_11 : decode cX7_scenesWithCards 11 = .ok (.iload_n 2, 1) := by decide +kernel
theorem dX7_scenesWithCards_12 : decode cX7_scenesWithCards 12 = .ok (.invokevirtual 49, 3) := by decide +kernel
theorem dX7_scenesWithCards_15 : decode cX7_scenesWithCards 15 = .ok (.ifCond .le 6, 3) := by decide +kernel
theorem dX7_scenesWithCards_18 : decode cX7_scenesWithCards 18 = .ok (.iinc 1 1, 3) := by decide +kernel
theorem dX7_scenesWithCards_21 : decode cX7_scenesWithCards 21 = .ok (.iinc 2 1, 3) := by decide +kernel
theorem dX7_scenesWithCards_24 : decode cX7_scenesWithCards 24 = .ok (.goto (-20), 3) := by decide +kernel
theorem dX7_scenesWithCards_27 : decode cX7_scenesWithCards 27 = .ok (.iload_n 1, 1) := by decide +kernel
theorem dX7_scenesWithCards_28 : decode cX7_scenesWithCards 28 = .ok (.ireturn, 1) := by decide +kernel
set_option maxRecDepth 20000 in
theorem ggX7_hasCards_X7_sizeOf : GoodIn wsX7_hasCards wsX7_sizeOf := goodIn_r _ [5, 6, 7, 8, 4, 9, 10, 11, 12, 13, 14, 15, 16, 17, 18, 19, 20] (by decide +kernel) (by decide +kernel)
set_option maxRecDepth 20000 in
theorem gX7_hasCards_X7_sizeOf : GoodIn wsX7_hasCards (wsV RX7 49 RX7 yX7_sizeOf wsX7_sizeOf) := goodIn_app (goodIn_of _ (by decide +kernel)) ggX7_hasCards_X7_sizeOf
theorem dX7_hasCards_0 : decode cX7_hasCards 0 = .ok (.iload_n 1, 1) := by decide +kernel
theorem dX7_hasCards_1 : decode cX7_hasCards 1 = .ok (.istore_n 3, 1) := by decide +kernel
theorem dX7_hasCards_2 : decode cX7_hasCards 2 = .ok (.iload_n 3, 1) := by decide +kernel
theorem dX7_hasCards_3 : decode cX7_hasCards 3 = .ok (.iload_n 2, 1) := by decide +kernel
theorem dX7_hasCards_4 : decode cX7_hasCards 4 = .ok (.if_icmp .ge 25, 3) := by decide +kernel
theorem dX7_hasCards_7 : decode cX7_hasCards 7 = .ok (.iload_n 3, 1) := by decide +kernel
theorem dX7_hasCards_8 : decode cX7_hasCards 8 = .ok (.bipush 16, 2) := by decide +kernel
theorem dX7_hasCards_10 : decode cX7_hasCards 10 = .ok (.if_icmp .ge 19, 3) := by decide +kernel
theorem dX7_hasCards_13 : decode cX7_hasCards 13 = .ok (.aload_n 0, 1) := by decide +kernel
theorem dX7_hasCards_14 : decode cX7_hasCards 14 = .ok (.iload_n 3, 1) := by decide +kernel
theorem dX7_hasCards_15 : decode cX7_hasCards 15 = .ok (.invokevirtual 49, 3) := by decide +kernel
theorem dX7_hasCards_18 : decode cX7_hasCards 18 = .ok (.ifCond .le 5, 3) := by decide +kernel
theorem dX7_hasCards_21 : decode cX7_hasCards 21 = .ok (.iconst 1, 1) := by decide +kernel
theorem dX7_hasCards_22 : decode cX7_hasCards 22 = .ok (.ireturn, 1) := by decide +kernel
theorem dX7_hasCards_23 : decode cX7_hasCards 23 = .ok (.iinc 3 1, 3) := by decide +kernel
theorem dX7_hasCards_26 : decode cX7_hasCards 26 = .ok (.goto (-24), 3) := by decide +kernel
theorem dX7_hasCards_29 : decode cX7_hasCards 29 = .ok (.iconst 0, 1) := by decide +kernel
theorem dX7_hasCards_30 : decode cX7_hasCards 30 = .ok (.ireturn, 1) := by decide +kernel
set_option maxRecDepth 20000 in
theorem ggX7_isHole_X7_sizeOf : GoodIn wsX7_isHole wsX7_sizeOf := goodIn_r _ [5, 6, 7, 8, 4, 9, 10, 11, 12, 13, 14, 15, 16, 17, 18, 19, 24] (by decide +kernel) (by decide +kernel)
set_option maxRecDepth 20000 in
theorem gX7_isHole_X7_sizeOf : GoodIn wsX7_isHole (wsV RX7 49 RX7 yX7_sizeOf wsX7_sizeOf) := goodIn_app (goodIn_of _ (by decide +kernel)) ggX7_isHole_X7_sizeOf
set_option maxRecDepth 20000 in
theorem ggX7_isHole_X7_hasCards : GoodIn wsX7_isHole wsX7_hasCards := goodIn_r _ [23, 1, 2, 3, 4, 5, 6, 7, 8, 9, 10, 11, 12, 13, 14, 15, 16, 17, 18, 19, 24] (by decide +kernel) (by decide +kernel)
set_option maxRecDepth 20000 in
theorem gX7_isHole_X7_hasCards : GoodIn wsX7_isHole (wsV RX7 52 RX7 yX7_hasCards wsX7_hasCards) := goodIn_app (goodIn_of _ (by decide +kernel)) ggX7_isHole_X7_hasCards
theorem dX7_isHole_0 : decode cX7_isHole 0 = .ok (.aload_n 0, 1) := by decide +kernel
theorem dX7_isHole_1 : decode cX7_isHole 1 = .ok (.iload_n 1, 1) := by decide +kernel
theorem dX7_isHole_2 : decode cX7_isHole 2 = .ok (.invokevirtual 49, 3) := by decide +kernel
theorem dX7_isHole_5 : decode cX7_isHole 5 = .ok (.ifCond .ne 28, 3) := by decide +kernel
theorem dX7_isHole_8 : decode cX7_isHole 8 = .ok (.aload_n 0, 1) := by decide +kernel
theorem dX7_isHole_9 : decode cX7_isHole 9 = .ok (.iconst 0, 1) := by decide +kernel
theorem dX7_isHole_10 : decode cX7_isHole 10 = .ok (.iload_n 1, 1) := by decide +kernel
theorem dX7_isHole_11 : decode cX7_isHole 11 = .ok (.invokevirtual 52, 3) := by decide +kernel
theorem dX7_isHole_14 : decode cX7_isHole 14 = .ok (.ifCond .eq 19, 3) := by decide +kernel
theorem dX7_isHole_17 : decode cX7_isHole 17 = .ok (.aload_n 0, 1) := by decide +kernel
theorem dX7_isHole_18 : decode cX7_isHole 18 = .ok (.iload_n 1, 1) := by decide +kernel
theorem dX7_isHole_19 : decode cX7_isHole 19 = .ok (.iconst 1, 1) := by decide +kernel
theorem dX7_isHole_20 : decode cX7_isHole 20 = .ok (.iadd, 1) := by decide +kernel
theorem dX7_isHole_21 : decode cX7_isHole 21 = .ok (.bipush 16, 2) := by decide +kernel
theorem dX7_isHole_23 : decode cX7_isHole 23 = .ok (.invokevirtual 52, 3) := by decide +kernel
theorem dX7_isHole_26 : decode cX7_isHole 26 = .ok (.ifCond .eq 7, 3) := by decide +kernel
theorem dX7_isHole_29 : decode cX7_isHole 29 = .ok (.iconst 1, 1) := by decide +kernel
theorem dX7_isHole_30 : decode cX7_isHole 30 = .ok (.goto 4, 3) := by decide +kernel
theorem dX7_isHole_33 : decode cX7_isHole 33 = .ok (.iconst 0, 1) := by decide +kernel
theorem dX7_isHole_34 : decode cX7_isHole 34 = .ok (.ireturn, 1) := by decide +kernel
set_option maxRecDepth 20000 in
theorem ggX7_holes_X7_isHole : GoodIn wsX7_holes wsX7_isHole := goodIn_r _ [5, 6, 7, 8, 4, 9, 10, 11, 12, 13, 14, 15, 16, 17, 18, 19, 20, 21, 22, 23, 24, 25, 26, 27, 28] (by decide +kernel) (by decide +kernel)
set_option maxRecDepth 20000 in
theorem gX7_holes_X7_isHole : GoodIn wsX7_holes (wsV RX7 56 RX7 yX7_isHole wsX7_isHole) := goodIn_app (goodIn_of _ (by decide +kernel)) ggX7_holes_X7_isHole
theorem dX7_holes_0 : decode cX7_holes 0 = .ok (.iconst 0, 1) := by decide +kernel
theorem dX7_holes_1 : decode cX7_holes 1 = .ok (.istore_n 1, 1) := by decide +kernel
theorem dX7_holes_2 : decode cX7_holes 2 = .ok (.iconst 0, 1) := by decide +kernel
theorem dX7_holes_3 : decode cX7_holes 3 = .ok (.istore_n 2, 1) := by decide +kernel
theorem dX7_holes_4 : decode cX7_holes 4 = .ok (.iload_n 2, 1) := by decide +kernel
theorem dX7_holes_5 : decode cX7_holes 5 = .ok (.bipush 16, 2) := by decide +kernel
theorem dX7_holes_7 : decode cX7_holes 7 = .ok (.if_icmp .ge 20, 3) := by decide +kernel
theorem dX7_holes_10 : decode cX7_holes 10 = .ok (.aload_n 0, 1) := by decide +kernel
theorem dX7_holes_11 : decode cX7_holes 11 = .ok (.iload_n 2, 1) := by decide +kernel
theorem dX7_holes_12 : decode cX7_holes 12 = .ok (.invokevirtual 56, 3) := by decide +kernel
theorem dX7_holes_15 : decode cX7_holes 15 = .ok (.ifCond .eq 6, 3) := by decide +kernel
theorem dX7_holes_18 : decode cX7_holes 18 = .ok (.iinc 1 1, 3) := by decide +kernel
theorem dX7_holes_21 : decode cX7_holes 21 = .ok (.iinc 2 1, 3) := by decide +kernel
theorem dX7_holes_24 : decode cX7_holes 24 = .ok (.goto (-20), 3) := by decide +kernel
theorem dX7_holes_27 : decode cX7_holes 27 = .ok (.iload_n 1, 1) := by decide +kernel
theorem dX7_holes_28 : decode cX7_holes 28 = .ok (.ireturn, 1) := by decide +kernel
set_option maxRecDepth 20000 in
theorem ggX8_init_X4_init : GoodIn wsX8_init wsX4_init := goodIn_r _ [35, 36, 2, 3, 37, 38, 39, 40, 41, 18, 19, 42, 43, 44, 45, 46, 47, 48, 49, 50, 51, 52, 53, 134, 135, 94, 95, 96, 114] (by decide +kernel) (by decide +kernel)
set_option maxRecDepth 20000 in
theorem gX8_init_X4_init_n9 : GoodIn wsX8_init (wsX4_init) := ggX8_init_X4_init
set_option maxRecDepth 20000 in
theorem ggX8_init_X2_init : GoodIn wsX8_init wsX2_init := goodIn_r _ [56, 57, 2, 3, 58, 59, 5, 6, 34, 35, 36, 37, 38, 39, 40, 41, 18, 19, 42, 43, 44, 45, 46, 47, 48, 49, 50, 51, 52, 53, 106, 107, 108, 94, 95, 96, 134, 135, 114] (by decide +kernel) (by decide +kernel)
set_option maxRecDepth 20000 in
theorem gX8_init_X2_init : GoodIn wsX8_init (wsX2_init) := ggX8_init_X2_init
set_option maxRecDepth 20000 in
theorem ggX8_init_X0_init : GoodIn wsX8_init wsX0_init := goodIn_r _ [61, 62, 2, 3, 63, 64, 65, 38, 39, 66, 45, 46, 47, 43, 48, 109, 110, 111, 112, 113, 134, 135] (by decide +kernel) (by decide +kernel)
set_option maxRecDepth 20000 in
theorem gX8_init_X0_init_n28 : GoodIn wsX8_init (wsX0_init) := ggX8_init_X0_init
set_option maxRecDepth 20000 in
theorem ggX8_init_X7_init : GoodIn wsX8_init wsX7_init := goodIn_r _ [51, 52, 2, 3, 43, 53, 114] (by decide +kernel) (by decide +kernel)
set_option maxRecDepth 20000 in
theorem gX8_init_X7_init : GoodIn wsX8_init (wsX7_init) := ggX8_init_X7_init
set_option maxRecDepth 20000 in
theorem ggX8_init_X3_init : GoodIn wsX8_init wsX3_init := goodIn_r _ [69, 70, 2, 3, 71, 38, 39, 72, 43, 73, 74, 75, 76, 77, 78, 45, 46, 47, 48, 134, 135, 115, 116, 117, 118, 119, 120, 121, 122, 123, 124] (by decide +kernel) (by decide +kernel)
set_option maxRecDepth 20000 in
theorem gX8_init_X3_init_n42 : GoodIn wsX8_init (wsX3_init) := ggX8_init_X3_init
set_option maxRecDepth 20000 in
theorem ggX8_init_X5_init : GoodIn wsX8_init wsX5_init := goodIn_r _ [80, 81, 2, 3, 43, 82, 83, 84, 85, 86, 87, 125, 126, 127, 128, 129, 130, 131] (by decide +kernel) (by decide +kernel)
set_option maxRecDepth 20000 in
theorem gX8_init_X5_init_n49 : GoodIn wsX8_init (wsX5_init) := ggX8_init_X5_init
set_option maxRecDepth 20000 in
theorem ggX8_init_X6_init : GoodIn wsX8_init wsX6_init := goodIn_r _ [89, 90, 2, 3, 91, 92, 43, 93, 132, 133] (by decide +kernel) (by decide +kernel)
set_option maxRecDepth 20000 in
theorem gX8_init_X6_init_n56 : GoodIn wsX8_init (wsX6_init) := ggX8_init_X6_init
theorem dX8_init_0 : decode cX8_init 0 = .ok (.aload_n 0, 1) := by decide +kernel
theorem dX8_init_1 : decode cX8_init 1 = .ok (.invokespecial 1, 3) := by decide +kernel
theorem dX8_init_4 : decode cX8_init 4 = .ok (.aload_n 0, 1) := by decide +kernel
theorem dX8_init_5 : decode cX8_init 5 = .ok (.new 7, 3) := by decide +kernel
theorem dX8_init_8 : decode cX8_init 8 = .ok (.dup, 1) := by decide +kernel
theorem dX8_init_9 : decode cX8_init 9 = .ok (.invokespecial 9, 3) := by decide +kernel
theorem dX8_init_12 : decode cX8_init 12 = .ok (.putfield 10, 3) := by decide +kernel
theorem dX8_init_15 : decode cX8_init 15 = .ok (.aload_n 0, 1) := by decide +kernel
theorem dX8_init_16 : decode cX8_init 16 = .ok (.new 7, 3) := by decide +kernel
theorem dX8_init_19 : decode cX8_init 19 = .ok (.dup, 1) := by decide +kernel
theorem dX8_init_20 : decode cX8_init 20 = .ok (.invokespecial 9, 3) := by decide +kernel
theorem dX8_init_23 : decode cX8_init 23 = .ok (.putfield 16, 3) := by decide +kernel
theorem dX8_init_26 : decode cX8_init 26 = .ok (.aload_n 0, 1) := by decide +kernel
theorem dX8_init_27 : decode cX8_init 27 = .ok (.new 19, 3) := by decide +kernel
theorem dX8_init_30 : decode cX8_init 30 = .ok (.dup, 1) := by decide +kernel
theorem dX8_init_31 : decode cX8_init 31 = .ok (.invokespecial 21, 3) := by decide +kernel
theorem dX8_init_34 : decode cX8_init 34 = .ok (.putfield 22, 3) := by decide +kernel
theorem dX8_init_37 : decode cX8_init 37 = .ok (.aload_n 0, 1) := by decide +kernel
theorem dX8_init_38 : decode cX8_init 38 = .ok (.new 26, 3) := by decide +kernel
theorem dX8_init_41 : decode cX8_init 41 = .ok (.dup, 1) := by decide +kernel
theorem dX8_init_42 : decode cX8_init 42 = .ok (.invokespecial 28, 3) := by decide +kernel
theorem dX8_init_45 : decode cX8_init 45 = .ok (.putfield 29, 3) := by decide +kernel
theorem dX8_init_48 : decode cX8_init 48 = .ok (.aload_n 0, 1) := by decide +kernel
theorem dX8_init_49 : decode cX8_init 49 = .ok (.new 33, 3) := by decide +kernel
theorem dX8_init_52 : decode cX8_init 52 = .ok (.dup, 1) := by decide +kernel
theorem dX8_init_53 : decode cX8_init 53 = .ok (.invokespecial 35, 3) := by decide +kernel
theorem dX8_init_56 : decode cX8_init 56 = .ok (.putfield 36, 3) := by decide +kernel
theorem dX8_init_59 : decode cX8_init 59 = .ok (.aload_n 0, 1) := by decide +kernel
theorem dX8_init_60 : decode cX8_init 60 = .ok (.new 40, 3) := by decide +kernel
theorem dX8_init_63 : decode cX8_init 63 = .ok (.dup, 1) := by decide +kernel
theorem dX8_init_64 : decode cX8_init 64 = .ok (.invokespecial 42, 3) := by decide +kernel
theorem dX8_init_67 : decode cX8_init 67 = .ok (.putfield 43, 3) := by decide +kernel
theorem dX8_init_70 : decode cX8_init 70 = .ok (.aload_n 0, 1) := by decide +kernel
theorem dX8_init_71 : decode cX8_init 71 = .ok (.new 47, 3) := by decide +kernel
theorem dX8_init_74 : decode cX8_init 74 = .ok (.dup, 1) := by decide +kernel
theorem dX8_init_75 : decode cX8_init 75 = .ok (.invokespecial 49, 3) := by decide +kernel
theorem dX8_init_78 : decode cX8_init 78 = .ok (.putfield 50, 3) := by decide +kernel
theorem dX8_init_81 : decode cX8_init 81 = .ok (.aload_n 0, 1) := by decide +kernel
theorem dX8_init_82 : decode cX8_init 82 = .ok (.new 54, 3) := by decide +kernel
theorem dX8_init_85 : decode cX8_init 85 = .ok (.dup, 1) := by decide +kernel
theorem dX8_init_86 : decode cX8_init 86 = .ok (.invokespecial 56, 3) := by decide +kernel
theorem dX8_init_89 : decode cX8_init 89 = .ok (.putfield 57, 3) := by decide +kernel
theorem dX8_init_92 : decode cX8_init 92 = .ok (.aload_n 0, 1) := by decide +kernel
theorem dX8_init_93 : decode cX8_init 93 = .ok (.iconst 0, 1) := by decide +kernel
theorem dX8_init_94 : decode cX8_init 94 = .ok (.putfield 61, 3) := by decide +kernel
theorem dX8_init_97 : decode cX8_init 97 = .ok (.return_, 1) := by decide +kernel
set_option maxRecDepth 20000 in
theorem ggX8_add_X8_isThread : GoodIn wsX8_add wsX8_isThread := goodIn_r _ [6] (by decide +kernel) (by decide +kernel)
set_option maxRecDepth 20000 in
theorem gX8_add_X8_isThread : GoodIn wsX8_add (va_wsS RX8 65 yX8_isThread wsX8_isThread) := goodIn_app (goodIn_of _ (by decide +kernel)) ggX8_add_X8_isThread
set_option maxRecDepth 20000 in
theorem ggX8_add_X8_mayBe : GoodIn wsX8_add wsX8_mayBe := goodIn_r _ [9, 10, 11] (by decide +kernel) (by decide +kernel)
set_option maxRecDepth 20000 in
theorem gX8_add_X8_mayBe : GoodIn wsX8_add (va_wsS RX8 69 yX8_mayBe wsX8_mayBe) := goodIn_app (goodIn_of _ (by decide +kernel)) ggX8_add_X8_mayBe
set_option maxRecDepth 20000 in
theorem ggX8_add_X1_hasRoomFor : GoodIn wsX8_add wsX1_hasRoomFor := goodIn_r _ [16, 17, 84, 85] (by decide +kernel) (by decide +kernel)
set_option maxRecDepth 20000 in
theorem gX8_add_X1_hasRoomFor : GoodIn wsX8_add (wsV RX8 77 RX1 yX1_hasRoomFor wsX1_hasRoomFor) := goodIn_app (goodIn_of _ (by decide +kernel)) ggX8_add_X1_hasRoomFor
set_option maxRecDepth 20000 in
theorem ggX8_add_X2_record : GoodIn wsX8_add wsX2_record := goodIn_r _ [22, 23, 24, 25, 26, 27, 21, 28, 29, 30, 31, 32, 33, 34, 35, 36, 37, 38, 39, 40, 41, 42, 43, 44, 15, 45, 46, 47, 17, 48, 49, 50, 51, 52, 53, 54, 86, 87, 88, 81, 82, 83, 84, 85, 89] (by decide +kernel) (by decide +kernel)
set_option maxRecDepth 20000 in
theorem gX8_add_X2_record : GoodIn wsX8_add (wsV RX8 82 RX2 yX2_record wsX2_record) := goodIn_app (goodIn_of _ (by decide +kernel)) ggX8_add_X2_record
set_option maxRecDepth 20000 in
theorem ggX8_add_X1_append : GoodIn wsX8_add wsX1_append := goodIn_r _ [58, 17, 59, 13, 14, 15, 16, 60, 61, 62, 63, 46, 64, 65, 66, 67, 84, 85] (by decide +kernel) (by decide +kernel)
set_option maxRecDepth 20000 in
theorem gX8_add_X1_append : GoodIn wsX8_add (wsV RX8 86 RX1 yX1_append wsX1_append) := goodIn_app (goodIn_of _ (by decide +kernel)) ggX8_add_X1_append
set_option maxRecDepth 20000 in
theorem ggX8_add_X1_size : GoodIn wsX8_add wsX1_size := goodIn_r _ [71, 17, 84, 85] (by decide +kernel) (by decide +kernel)
set_option maxRecDepth 20000 in
theorem gX8_add_X1_size : GoodIn wsX8_add (wsV RX8 90 RX1 yX1_size wsX1_size) := goodIn_app (goodIn_of _ (by decide +kernel)) ggX8_add_X1_size
theorem dX8_add_0 : decode cX8_add 0 = .ok (.iload_n 1, 1) := by decide +kernel
theorem dX8_add_1 : decode cX8_add 1 = .ok (.invokestatic 65, 3) := by decide +kernel
theorem dX8_add_4 : decode cX8_add 4 = .ok (.ifCond .ne 5, 3) := by decide +kernel
theorem dX8_add_7 : decode cX8_add 7 = .ok (.iconst (-1), 1) := by decide +kernel
theorem dX8_add_8 : decode cX8_add 8 = .ok (.ireturn, 1) := by decide +kernel
theorem dX8_add_9 : decode cX8_add 9 = .ok (.iconst 1, 1) := by decide +kernel
theorem dX8_add_10 : decode cX8_add 10 = .ok (.iload_n 2, 1) := by decide +kernel
theorem dX8_add_11 : decode cX8_add 11 = .ok (.invokestatic 69, 3) := by decide +kernel
theorem dX8_add_14 : decode cX8_add 14 = .ok (.ifCond .eq 20, 3) := by decide +kernel
theorem dX8_add_17 : decode cX8_add 17 = .ok (.iconst 2, 1) := by decide +kernel
theorem dX8_add_18 : decode cX8_add 18 = .ok (.iload_n 3, 1) := by decide +kernel
theorem dX8_add_19 : decode cX8_add 19 = .ok (.invokestatic 69, 3) := by decide +kernel
theorem dX8_add_22 : decode cX8_add 22 = .ok (.ifCond .eq 12, 3) := by decide +kernel
theorem dX8_add_25 : decode cX8_add 25 = .ok (.iconst 3, 1) := by decide +kernel
theorem dX8_add_26 : decode cX8_add 26 = .ok (.iload 4, 2) := by decide +kernel
theorem dX8_add_28 : decode cX8_add 28 = .ok (.invokestatic 69, 3) := by decide +kernel
theorem dX8_add_31 : decode cX8_add 31 = .ok (.ifCond .ne 6, 3) := by decide +kernel
theorem dX8_add_34 : decode cX8_add 34 = .ok (.bipush (-2), 2) := by decide +kernel
theorem dX8_add_36 : decode cX8_add 36 = .ok (.ireturn, 1) := by decide +kernel
theorem dX8_add_37 : decode cX8_add 37 = .ok (.aload_n 0, 1) := by decide +kernel
theorem dX8_add_38 : decode cX8_add 38 = .ok (.getfield 10, 3) := by decide +kernel
theorem dX8_add_41 : decode cX8_add 41 = .ok (.getfield 73, 3) := by decide +kernel
theorem dX8_add_44 : decode cX8_add 44 = .ok (.iconst 1, 1) := by decide +kernel
theorem dX8_add_45 : decode cX8_add 45 = .ok (.invokevirtual 77, 3) := by decide +kernel
theorem dX8_add_48 : decode cX8_add 48 = .ok (.ifCond .ne 6, 3) := by decide +kernel
theorem dX8_add_51 : decode cX8_add 51 = .ok (.bipush (-3), 2) := by decide +kernel
theorem dX8_add_53 : decode cX8_add 53 = .ok (.ireturn, 1) := by decide +kernel
theorem dX8_add_54 : decode cX8_add 54 = .ok (.aload_n 0, 1) := by decide +kernel
theorem dX8_add_55 : decode cX8_add 55 = .ok (.getfield 22, 3) := by decide +kernel
theorem dX8_add_58 : decode cX8_add 58 = .ok (.aload_n 0, 1) := by decide +kernel
theorem dX8_add_59 : decode cX8_add 59 = .ok (.getfield 10, 3) := by decide +kernel
theorem dX8_add_62 : decode cX8_add 62 = .ok (.invokevirtual 82, 3) := by decide +kernel
theorem dX8_add_65 : decode cX8_add 65 = .ok (.aload_n 0, 1) := by decide +kernel
theorem dX8_add_66 : decode cX8_add 66 = .ok (.getfield 10, 3) := by decide +kernel
theorem dX8_add_69 : decode cX8_add 69 = .ok (.getfield 73, 3) := by decide +kernel
theorem dX8_add_72 : decode cX8_add 72 = .ok (.iload_n 1, 1) := by decide +kernel
theorem dX8_add_73 : decode cX8_add 73 = .ok (.iload_n 2, 1) := by decide +kernel
theorem dX8_add_74 : decode cX8_add 74 = .ok (.iload_n 3, 1) := by decide +kernel
theorem dX8_add_75 : decode cX8_add 75 = .ok (.iload 4, 2) := by decide +kernel
theorem dX8_add_77 : decode cX8_add 77 = .ok (.iconst 0, 1) := by decide +kernel
theorem dX8_add_78 : decode cX8_add 78 = .ok (.invokevirtual 86, 3) := by decide +kernel
theorem dX8_add_81 : decode cX8_add 81 = .ok (.aload_n 0, 1) := by decide +kernel
theorem dX8_add_82 : decode cX8_add 82 = .ok (.getfield 10, 3) := by decide +kernel
theorem dX8_add_85 : decode cX8_add 85 = .ok (.getfield 73, 3) := by decide +kernel
theorem dX8_add_88 : decode cX8_add 88 = .ok (.invokevirtual 90, 3) := by decide +kernel
theorem dX8_add_91 : decode cX8_add 91 = .ok (.iconst 1, 1) := by decide +kernel
theorem dX8_add_92 : decode cX8_add 92 = .ok (.isub, 1) := by decide +kernel
theorem dX8_add_93 : decode cX8_add 93 = .ok (.ireturn, 1) := by decide +kernel
set_option maxRecDepth 20000 in
theorem ggX8_change_X1_has : GoodIn wsX8_change wsX1_has := goodIn_r _ [7, 8, 76, 77] (by decide +kernel) (by decide +kernel)
set_option maxRecDepth 20000 in
theorem gX8_change_X1_has : GoodIn wsX8_change (wsV RX8 105 RX1 yX1_has wsX1_has) := goodIn_app (goodIn_of _ (by decide +kernel)) ggX8_change_X1_has
set_option maxRecDepth 20000 in
theorem ggX8_change_X8_mayBe : GoodIn wsX8_change wsX8_mayBe := goodIn_r _ [12, 13, 14] (by decide +kernel) (by decide +kernel)
set_option maxRecDepth 20000 in
theorem gX8_change_X8_mayBe : GoodIn wsX8_change (va_wsS RX8 69 yX8_mayBe wsX8_mayBe) := goodIn_app (goodIn_of _ (by decide +kernel)) ggX8_change_X8_mayBe
set_option maxRecDepth 20000 in
theorem ggX8_change_X1_number : GoodIn wsX8_change wsX1_number := goodIn_r _ [18, 19, 20, 21, 22, 6, 23, 8, 76, 77] (by decide +kernel) (by decide +kernel)
set_option maxRecDepth 20000 in
theorem gX8_change_X1_number : GoodIn wsX8_change (wsV RX8 108 RX1 yX1_number wsX1_number) := goodIn_app (goodIn_of _ (by decide +kernel)) ggX8_change_X1_number
set_option maxRecDepth 20000 in
theorem ggX8_change_X2_record : GoodIn wsX8_change wsX2_record := goodIn_r _ [28, 29, 30, 31, 32, 33, 27, 34, 35, 36, 37, 38, 39, 40, 41, 42, 43, 44, 45, 46, 47, 48, 49, 50, 6, 51, 19, 52, 8, 53, 54, 55, 56, 57, 58, 59, 78, 79, 80, 73, 74, 75, 76, 77, 81] (by decide +kernel) (by decide +kernel)
set_option maxRecDepth 20000 in
theorem gX8_change_X2_record : GoodIn wsX8_change (wsV RX8 82 RX2 yX2_record wsX2_record) := goodIn_app (goodIn_of _ (by decide +kernel)) ggX8_change_X2_record
set_option maxRecDepth 20000 in
theorem ggX8_change_X1_put : GoodIn wsX8_change wsX1_put := goodIn_r _ [63, 19, 20, 21, 22, 6, 23, 8, 76, 77] (by decide +kernel) (by decide +kernel)
set_option maxRecDepth 20000 in
theorem gX8_change_X1_put : GoodIn wsX8_change (wsV RX8 112 RX1 yX1_put wsX1_put) := goodIn_app (goodIn_of _ (by decide +kernel)) ggX8_change_X1_put
theorem dX8_change_0 : decode cX8_change 0 = .ok (.aload_n 0, 1) := by decide +kernel
theorem dX8_change_1 : decode cX8_change 1 = .ok (.getfield 10, 3) := by decide +kernel
theorem dX8_change_4 : decode cX8_change 4 = .ok (.getfield 73, 3) := by decide +kernel
theorem dX8_change_7 : decode cX8_change 7 = .ok (.iload_n 1, 1) := by decide +kernel
theorem dX8_change_8 : decode cX8_change 8 = .ok (.invokevirtual 105, 3) := by decide +kernel
theorem dX8_change_11 : decode cX8_change 11 = .ok (.ifCond .ne 5, 3) := by decide +kernel
theorem dX8_change_14 : decode cX8_change 14 = .ok (.iconst (-1), 1) := by decide +kernel
theorem dX8_change_15 : decode cX8_change 15 = .ok (.ireturn, 1) := by decide +kernel
theorem dX8_change_16 : decode cX8_change 16 = .ok (.iload_n 2, 1) := by decide +kernel
theorem dX8_change_17 : decode cX8_change 17 = .ok (.ifCond .lt 8, 3) := by decide +kernel
theorem dX8_change_20 : decode cX8_change 20 = .ok (.iload_n 2, 1) := by decide +kernel
theorem dX8_change_21 : decode cX8_change 21 = .ok (.iconst 4, 1) := by decide +kernel
theorem dX8_change_22 : decode cX8_change 22 = .ok (.if_icmp .lt 6, 3) := by decide +kernel
theorem dX8_change_25 : decode cX8_change 25 = .ok (.bipush (-2), 2) := by decide +kernel
theorem dX8_change_27 : decode cX8_change 27 = .ok (.ireturn, 1) := by decide +kernel
theorem dX8_change_28 : decode cX8_change 28 = .ok (.iload_n 2, 1) := by decide +kernel
theorem dX8_change_29 : decode cX8_change 29 = .ok (.iconst 1, 1) := by decide +kernel
theorem dX8_change_30 : decode cX8_change 30 = .ok (.iadd, 1) := by decide +kernel
theorem dX8_change_31 : decode cX8_change 31 = .ok (.istore 4, 2) := by decide +kernel
theorem dX8_change_33 : decode cX8_change 33 = .ok (.iload 4, 2) := by decide +kernel
theorem dX8_change_35 : decode cX8_change 35 = .ok (.iload_n 3, 1) := by decide +kernel
theorem dX8_change_36 : decode cX8_change 36 = .ok (.invokestatic 69, 3) := by decide +kernel
theorem dX8_change_39 : decode cX8_change 39 = .ok (.ifCond .ne 6, 3) := by decide +kernel
theorem dX8_change_42 : decode cX8_change 42 = .ok (.bipush (-2), 2) := by decide +kernel
theorem dX8_change_44 : decode cX8_change 44 = .ok (.ireturn, 1) := by decide +kernel
theorem dX8_change_45 : decode cX8_change 45 = .ok (.aload_n 0, 1) := by decide +kernel
theorem dX8_change_46 : decode cX8_change 46 = .ok (.getfield 10, 3) := by decide +kernel
theorem dX8_change_49 : decode cX8_change 49 = .ok (.getfield 73, 3) := by decide +kernel
theorem dX8_change_52 : decode cX8_change 52 = .ok (.iload_n 1, 1) := by decide +kernel
theorem dX8_change_53 : decode cX8_change 53 = .ok (.iload 4, 2) := by decide +kernel
theorem dX8_change_55 : decode cX8_change 55 = .ok (.invokevirtual 108, 3) := by decide +kernel
theorem dX8_change_58 : decode cX8_change 58 = .ok (.istore 5, 2) := by decide +kernel
theorem dX8_change_60 : decode cX8_change 60 = .ok (.iload 5, 2) := by decide +kernel
theorem dX8_change_62 : decode cX8_change 62 = .ok (.iload_n 3, 1) := by decide +kernel
theorem dX8_change_63 : decode cX8_change 63 = .ok (.if_icmp .ne 6, 3) := by decide +kernel
theorem dX8_change_66 : decode cX8_change 66 = .ok (.bipush (-5), 2) := by decide +kernel
theorem dX8_change_68 : decode cX8_change 68 = .ok (.ireturn, 1) := by decide +kernel
theorem dX8_change_69 : decode cX8_change 69 = .ok (.aload_n 0, 1) := by decide +kernel
theorem dX8_change_70 : decode cX8_change 70 = .ok (.getfield 22, 3) := by decide +kernel
theorem dX8_change_73 : decode cX8_change 73 = .ok (.aload_n 0, 1) := by decide +kernel
theorem dX8_change_74 : decode cX8_change 74 = .ok (.getfield 10, 3) := by decide +kernel
theorem dX8_change_77 : decode cX8_change 77 = .ok (.invokevirtual 82, 3) := by decide +kernel
theorem dX8_change_80 : decode cX8_change 80 = .ok (.aload_n 0, 1) := by decide +kernel
theorem dX8_change_81 : decode cX8_change 81 = .ok (.getfield 10, 3) := by decide +kernel
theorem dX8_change_84 : decode cX8_change 84 = .ok (.getfield 73, 3) := by decide +kernel
theorem dX8_change_87 : decode cX8_change 87 = .ok (.iload_n 1, 1) := by decide +kernel
theorem dX8_change_88 : decode cX8_change 88 = .ok (.iload 4, 2) := by decide +kernel
theorem dX8_change_90 : decode cX8_change 90 = .ok (.iload_n 3, 1) := by decide +kernel
theorem dX8_change_91 : decode cX8_change 91 = .ok (.invokevirtual 112, 3) := by decide +kernel
theorem dX8_change_94 : decode cX8_change 94 = .ok (.iload 5, 2) := by decide +kernel
theorem dX8_change_96 : decode cX8_change 96 = .ok (.ireturn, 1) := by decide +kernel
set_option maxRecDepth 20000 in
theorem ggX8_pin_X8_pinFault : GoodIn wsX8_pin wsX8_pinFault := goodIn_r _ [7, 1, 8, 9, 10, 11, 12, 13, 14, 15, 6, 16, 17, 18, 19, 20, 21, 22, 23, 24, 25, 26, 27, 28, 29, 30, 31, 32, 33, 34, 35, 36, 37, 38, 39, 40, 188, 189, 190, 191, 192, 193, 194, 195, 196, 197, 198, 199, 200, 201, 202] (by decide +kernel) (by decide +kernel)
set_option maxRecDepth 20000 in
theorem gX8_pin_X8_pinFault : GoodIn wsX8_pin (wsV RX8 116 RX8 yX8_pinFault wsX8_pinFault) := goodIn_app (goodIn_of _ (by decide +kernel)) ggX8_pin_X8_pinFault
set_option maxRecDepth 20000 in
theorem ggX8_pin_X7_slotOf : GoodIn wsX8_pin wsX7_slotOf := goodIn_r _ [40, 32, 28, 29, 30, 20, 31, 202] (by decide +kernel) (by decide +kernel)
set_option maxRecDepth 20000 in
theorem gX8_pin_X7_slotOf : GoodIn wsX8_pin (wsV RX8 123 RX7 yX7_slotOf wsX7_slotOf) := goodIn_app (goodIn_of _ (by decide +kernel)) ggX8_pin_X7_slotOf
set_option maxRecDepth 20000 in
theorem ggX8_pin_X8_slot : GoodIn wsX8_pin wsX8_slot := goodIn_r _ [27] (by decide +kernel) (by decide +kernel)
set_option maxRecDepth 20000 in
theorem gX8_pin_X8_slot : GoodIn wsX8_pin (va_wsS RX8 127 yX8_slot wsX8_slot) := goodIn_app (goodIn_of _ (by decide +kernel)) ggX8_pin_X8_slot
set_option maxRecDepth 20000 in
theorem ggX8_pin_X2_record : GoodIn wsX8_pin wsX2_record := goodIn_r _ [47, 48, 49, 50, 51, 52, 46, 53, 54, 55, 56, 57, 58, 59, 60, 61, 62, 63, 64, 65, 66, 67, 68, 69, 11, 70, 71, 72, 13, 73, 74, 75, 20, 76, 32, 77, 203, 204, 205, 197, 198, 199, 200, 201, 202] (by decide +kernel) (by decide +kernel)
set_option maxRecDepth 20000 in
theorem gX8_pin_X2_record : GoodIn wsX8_pin (wsV RX8 82 RX2 yX2_record wsX2_record) := goodIn_app (goodIn_of _ (by decide +kernel)) ggX8_pin_X2_record
set_option maxRecDepth 20000 in
theorem ggX8_pin_X7_takeOff : GoodIn wsX8_pin wsX7_takeOff := goodIn_r _ [81, 37, 38, 39, 20, 40, 32, 28, 29, 30, 31, 26, 6, 27, 82, 83, 84, 85, 202] (by decide +kernel) (by decide +kernel)
set_option maxRecDepth 20000 in
theorem gX8_pin_X7_takeOff : GoodIn wsX8_pin (wsV RX8 130 RX7 yX7_takeOff wsX7_takeOff) := goodIn_app (goodIn_of _ (by decide +kernel)) ggX8_pin_X7_takeOff
set_option maxRecDepth 20000 in
theorem ggX8_pin_X7_putIn : GoodIn wsX8_pin wsX7_putIn := goodIn_r _ [89, 26, 6, 27, 28, 29, 30, 20, 31, 32, 82, 83, 84, 85, 202] (by decide +kernel) (by decide +kernel)
set_option maxRecDepth 20000 in
theorem gX8_pin_X7_putIn : GoodIn wsX8_pin (wsV RX8 134 RX7 yX7_putIn wsX7_putIn) := goodIn_app (goodIn_of _ (by decide +kernel)) ggX8_pin_X7_putIn
set_option maxRecDepth 20000 in
theorem ggX8_pin_X1_number : GoodIn wsX8_pin wsX1_number := goodIn_r _ [93, 71, 94, 95, 96, 11, 97, 13, 200, 201] (by decide +kernel) (by decide +kernel)
set_option maxRecDepth 20000 in
theorem gX8_pin_X1_number : GoodIn wsX8_pin (wsV RX8 108 RX1 yX1_number wsX1_number) := goodIn_app (goodIn_of _ (by decide +kernel)) ggX8_pin_X1_number
set_option maxRecDepth 20000 in
theorem ggX8_pin_X8_breaksNow : GoodIn wsX8_pin wsX8_breaksNow := goodIn_r _ [101, 102, 1, 103, 104, 105, 106, 107, 108, 109, 110, 111, 112, 113, 114, 115, 116, 11, 117, 13, 118, 119, 120, 58, 121, 62, 122, 29, 30, 20, 31, 32, 123, 9, 10, 12, 124, 125, 126, 127, 128, 129, 130, 131, 132, 91, 92, 93, 71, 94, 95, 96, 97, 133, 6, 134, 135, 136, 137, 138, 139, 140, 141, 142, 143, 144, 145, 146, 147, 148, 149, 150, 151, 152, 153, 154, 155, 156, 157, 158, 159, 160, 161, 162, 163, 164, 165, 166, 167, 168, 169, 170, 171, 172, 173, 174, 175, 176, 177, 178, 179, 180, 181, 182, 183, 184, 185, 186, 187, 188, 189, 190, 191, 192, 193, 194, 195, 196, 197, 198, 199, 206, 207, 208, 209, 210, 211, 212, 213, 214, 215, 200, 201, 202] (by decide +kernel) (by decide +kernel)
set_option maxRecDepth 20000 in
theorem gX8_pin_X8_breaksNow : GoodIn wsX8_pin (wsV RX8 137 RX8 yX8_breaksNow wsX8_breaksNow) := goodIn_app (goodIn_of _ (by decide +kernel)) ggX8_pin_X8_breaksNow
theorem dX8_pin_0 : decode cX8_pin 0 = .ok (.aload_n 0, 1) := by decide +kernel
theorem dX8_pin_1 : decode cX8_pin 1 = .ok (.iload_n 1, 1) := by decide +kernel
theorem dX8_pin_2 : decode cX8_pin 2 = .ok (.iload_n 2, 1) := by decide +kernel
theorem dX8_pin_3 : decode cX8_pin 3 = .ok (.iload_n 3, 1) := by decide +kernel
theorem dX8_pin_4 : decode cX8_pin 4 = .ok (.invokevirtual 116, 3) := by decide +kernel
theorem dX8_pin_7 : decode cX8_pin 7 = .ok (.istore 4, 2) := by decide +kernel
theorem dX8_pin_9 : decode cX8_pin 9 = .ok (.iload 4, 2) := by decide +kernel
theorem dX8_pin_11 : decode cX8_pin 11 = .ok (.ifCond .eq 6, 3) := by decide +kernel
theorem dX8_pin_14 : decode cX8_pin 14 = .ok (.iload 4, 2) := by decide +kernel
theorem dX8_pin_16 : decode cX8_pin 16 = .ok (.ireturn, 1) := by decide +kernel
theorem dX8_pin_17 : decode cX8_pin 17 = .ok (.aload_n 0, 1) := by decide +kernel
theorem dX8_pin_18 : decode cX8_pin 18 = .ok (.getfield 10, 3) := by decide +kernel
theorem dX8_pin_21 : decode cX8_pin 21 = .ok (.getfield 120, 3) := by decide +kernel
theorem dX8_pin_24 : decode cX8_pin 24 = .ok (.iload_n 1, 1) := by decide +kernel
theorem dX8_pin_25 : decode cX8_pin 25 = .ok (.invokevirtual 123, 3) := by decide +kernel
theorem dX8_pin_28 : decode cX8_pin 28 = .ok (.iload_n 2, 1) := by decide +kernel
theorem dX8_pin_29 : decode cX8_pin 29 = .ok (.iload_n 3, 1) := by decide +kernel
theorem dX8_pin_30 : decode cX8_pin 30 = .ok (.invokestatic 127, 3) := by decide +kernel
theorem dX8_pin_33 : decode cX8_pin 33 = .ok (.if_icmp .ne 6, 3) := by decide +kernel
theorem dX8_pin_36 : decode cX8_pin 36 = .ok (.bipush (-5), 2) := by decide +kernel
theorem dX8_pin_38 : decode cX8_pin 38 = .ok (.ireturn, 1) := by decide +kernel
theorem dX8_pin_39 : decode cX8_pin 39 = .ok (.aload_n 0, 1) := by decide +kernel
theorem dX8_pin_40 : decode cX8_pin 40 = .ok (.getfield 22, 3) := by decide +kernel
theorem dX8_pin_43 : decode cX8_pin 43 = .ok (.aload_n 0, 1) := by decide +kernel
theorem dX8_pin_44 : decode cX8_pin 44 = .ok (.getfield 10, 3) := by decide +kernel
theorem dX8_pin_47 : decode cX8_pin 47 = .ok (.invokevirtual 82, 3) := by decide +kernel
theorem dX8_pin_50 : decode cX8_pin 50 = .ok (.aload_n 0, 1) := by decide +kernel
theorem dX8_pin_51 : decode cX8_pin 51 = .ok (.getfield 10, 3) := by decide +kernel
theorem dX8_pin_54 : decode cX8_pin 54 = .ok (.getfield 120, 3) := by decide +kernel
theorem dX8_pin_57 : decode cX8_pin 57 = .ok (.iload_n 1, 1) := by decide +kernel
theorem dX8_pin_58 : decode cX8_pin 58 = .ok (.invokevirtual 130, 3) := by decide +kernel
theorem dX8_pin_61 : decode cX8_pin 61 = .ok (.aload_n 0, 1) := by decide +kernel
theorem dX8_pin_62 : decode cX8_pin 62 = .ok (.getfield 10, 3) := by decide +kernel
theorem dX8_pin_65 : decode cX8_pin 65 = .ok (.getfield 120, 3) := by decide +kernel
theorem dX8_pin_68 : decode cX8_pin 68 = .ok (.iload_n 1, 1) := by decide +kernel
theorem dX8_pin_69 : decode cX8_pin 69 = .ok (.iload_n 2, 1) := by decide +kernel
theorem dX8_pin_70 : decode cX8_pin 70 = .ok (.iload_n 3, 1) := by decide +kernel
theorem dX8_pin_71 : decode cX8_pin 71 = .ok (.invokevirtual 134, 3) := by decide +kernel
theorem dX8_pin_74 : decode cX8_pin 74 = .ok (.aload_n 0, 1) := by decide +kernel
theorem dX8_pin_75 : decode cX8_pin 75 = .ok (.aload_n 0, 1) := by decide +kernel
theorem dX8_pin_76 : decode cX8_pin 76 = .ok (.getfield 10, 3) := by decide +kernel
theorem dX8_pin_79 : decode cX8_pin 79 = .ok (.getfield 73, 3) := by decide +kernel
theorem dX8_pin_82 : decode cX8_pin 82 = .ok (.iload_n 1, 1) := by decide +kernel
theorem dX8_pin_83 : decode cX8_pin 83 = .ok (.iconst 0, 1) := by decide +kernel
theorem dX8_pin_84 : decode cX8_pin 84 = .ok (.invokevirtual 108, 3) := by decide +kernel
theorem dX8_pin_87 : decode cX8_pin 87 = .ok (.invokevirtual 137, 3) := by decide +kernel
theorem dX8_pin_90 : decode cX8_pin 90 = .ok (.ireturn, 1) := by decide +kernel
set_option maxRecDepth 20000 in
theorem ggX8_unpin_X1_has : GoodIn wsX8_unpin wsX1_has := goodIn_r _ [7, 8, 176, 177] (by decide +kernel) (by decide +kernel)
set_option maxRecDepth 20000 in
theorem gX8_unpin_X1_has : GoodIn wsX8_unpin (wsV RX8 105 RX1 yX1_has wsX1_has) := goodIn_app (goodIn_of _ (by decide +kernel)) ggX8_unpin_X1_has
set_option maxRecDepth 20000 in
theorem ggX8_unpin_X7_slotOf : GoodIn wsX8_unpin wsX7_slotOf := goodIn_r _ [13, 14, 15, 16, 17, 12, 18, 178] (by decide +kernel) (by decide +kernel)
set_option maxRecDepth 20000 in
theorem gX8_unpin_X7_slotOf : GoodIn wsX8_unpin (wsV RX8 123 RX7 yX7_slotOf wsX7_slotOf) := goodIn_app (goodIn_of _ (by decide +kernel)) ggX8_unpin_X7_slotOf
set_option maxRecDepth 20000 in
theorem ggX8_unpin_X2_record : GoodIn wsX8_unpin wsX2_record := goodIn_r _ [23, 24, 25, 26, 27, 28, 22, 29, 30, 31, 32, 33, 34, 35, 36, 37, 38, 39, 40, 41, 42, 43, 44, 45, 6, 46, 47, 48, 8, 49, 50, 51, 12, 52, 14, 53, 179, 180, 181, 173, 174, 175, 176, 177, 178] (by decide +kernel) (by decide +kernel)
set_option maxRecDepth 20000 in
theorem gX8_unpin_X2_record : GoodIn wsX8_unpin (wsV RX8 82 RX2 yX2_record wsX2_record) := goodIn_app (goodIn_of _ (by decide +kernel)) ggX8_unpin_X2_record
set_option maxRecDepth 20000 in
theorem ggX8_unpin_X7_takeOff : GoodIn wsX8_unpin wsX7_takeOff := goodIn_r _ [57, 58, 10, 11, 12, 13, 14, 15, 16, 17, 18, 59, 60, 61, 62, 63, 64, 65, 178] (by decide +kernel) (by decide +kernel)
set_option maxRecDepth 20000 in
theorem gX8_unpin_X7_takeOff : GoodIn wsX8_unpin (wsV RX8 130 RX7 yX7_takeOff wsX7_takeOff) := goodIn_app (goodIn_of _ (by decide +kernel)) ggX8_unpin_X7_takeOff
set_option maxRecDepth 20000 in
theorem ggX8_unpin_X1_number : GoodIn wsX8_unpin wsX1_number := goodIn_r _ [69, 47, 70, 71, 72, 6, 73, 8, 176, 177] (by decide +kernel) (by decide +kernel)
set_option maxRecDepth 20000 in
theorem gX8_unpin_X1_number : GoodIn wsX8_unpin (wsV RX8 108 RX1 yX1_number wsX1_number) := goodIn_app (goodIn_of _ (by decide +kernel)) ggX8_unpin_X1_number
set_option maxRecDepth 20000 in
theorem ggX8_unpin_X8_breaksNow : GoodIn wsX8_unpin wsX8_breaksNow := goodIn_r _ [77, 78, 1, 79, 80, 81, 82, 83, 84, 85, 86, 87, 88, 89, 90, 91, 92, 6, 93, 8, 94, 95, 96, 34, 97, 38, 98, 16, 17, 12, 18, 14, 99, 4, 5, 7, 100, 101, 102, 103, 104, 105, 106, 107, 108, 67, 68, 69, 47, 70, 71, 72, 73, 109, 60, 110, 111, 112, 113, 114, 115, 116, 117, 118, 119, 120, 121, 122, 123, 124, 125, 126, 127, 128, 129, 130, 131, 132, 133, 134, 135, 136, 137, 138, 139, 140, 141, 142, 143, 144, 145, 146, 147, 148, 149, 150, 151, 152, 153, 154, 155, 156, 157, 158, 159, 160, 161, 162, 163, 164, 165, 166, 167, 168, 169, 170, 171, 172, 173, 174, 175, 182, 183, 184, 185, 186, 187, 188, 189, 190, 191, 176, 177, 178] (by decide +kernel) (by decide +kernel)
set_option maxRecDepth 20000 in
theorem gX8_unpin_X8_breaksNow : GoodIn wsX8_unpin (wsV RX8 137 RX8 yX8_breaksNow wsX8_breaksNow) := goodIn_app (goodIn_of _ (by decide +kernel)) ggX8_unpin_X8_breaksNow
theorem dX8_unpin_0 : decode cX8_unpin 0 = .ok (.aload_n 0, 1) := by decide +kernel
theorem dX8_unpin_1 : decode cX8_unpin 1 = .ok (.getfield 10, 3) := by decide +kernel
theorem dX8_unpin_4 : decode cX8_unpin 4 = .ok (.getfield 73, 3) := by decide +kernel
theorem dX8_unpin_7 : decode cX8_unpin 7 = .ok (.iload_n 1, 1) := by decide +kernel
theorem dX8_unpin_8 : decode cX8_unpin 8 = .ok (.invokevirtual 105, 3) := by decide +kernel
theorem dX8_unpin_11 : decode cX8_unpin 11 = .ok (.ifCond .ne 5, 3) := by decide +kernel
theorem dX8_unpin_14 : decode cX8_unpin 14 = .ok (.iconst (-1), 1) := by decide +kernel
theorem dX8_unpin_15 : decode cX8_unpin 15 = .ok (.ireturn, 1) := by decide +kernel
theorem dX8_unpin_16 : decode cX8_unpin 16 = .ok (.aload_n 0, 1) := by decide +kernel
theorem dX8_unpin_17 : decode cX8_unpin 17 = .ok (.getfield 10, 3) := by decide +kernel
theorem dX8_unpin_20 : decode cX8_unpin 20 = .ok (.getfield 120, 3) := by decide +kernel
theorem dX8_unpin_23 : decode cX8_unpin 23 = .ok (.iload_n 1, 1) := by decide +kernel
theorem dX8_unpin_24 : decode cX8_unpin 24 = .ok (.invokevirtual 123, 3) := by decide +kernel
theorem dX8_unpin_27 : decode cX8_unpin 27 = .ok (.bipush (-5), 2) := by decide +kernel
theorem dX8_unpin_29 : decode cX8_unpin 29 = .ok (.if_icmp .ne 6, 3) := by decide +kernel
theorem dX8_unpin_32 : decode cX8_unpin 32 = .ok (.bipush (-5), 2) := by decide +kernel
theorem dX8_unpin_34 : decode cX8_unpin 34 = .ok (.ireturn, 1) := by decide +kernel
theorem dX8_unpin_35 : decode cX8_unpin 35 = .ok (.aload_n 0, 1) := by decide +kernel
theorem dX8_unpin_36 : decode cX8_unpin 36 = .ok (.getfield 22, 3) := by decide +kernel
theorem dX8_unpin_39 : decode cX8_unpin 39 = .ok (.aload_n 0, 1) := by decide +kernel
theorem dX8_unpin_40 : decode cX8_unpin 40 = .ok (.getfield 10, 3) := by decide +kernel
theorem dX8_unpin_43 : decode cX8_unpin 43 = .ok (.invokevirtual 82, 3) := by decide +kernel
theorem dX8_unpin_46 : decode cX8_unpin 46 = .ok (.aload_n 0, 1) := by decide +kernel
theorem dX8_unpin_47 : decode cX8_unpin 47 = .ok (.getfield 10, 3) := by decide +kernel
theorem dX8_unpin_50 : decode cX8_unpin 50 = .ok (.getfield 120, 3) := by decide +kernel
theorem dX8_unpin_53 : decode cX8_unpin 53 = .ok (.iload_n 1, 1) := by decide +kernel
theorem dX8_unpin_54 : decode cX8_unpin 54 = .ok (.invokevirtual 130, 3) := by decide +kernel
theorem dX8_unpin_57 : decode cX8_unpin 57 = .ok (.aload_n 0, 1) := by decide +kernel
theorem dX8_unpin_58 : decode cX8_unpin 58 = .ok (.aload_n 0, 1) := by decide +kernel
theorem dX8_unpin_59 : decode cX8_unpin 59 = .ok (.getfield 10, 3) := by decide +kernel
theorem dX8_unpin_62 : decode cX8_unpin 62 = .ok (.getfield 73, 3) := by decide +kernel
theorem dX8_unpin_65 : decode cX8_unpin 65 = .ok (.iload_n 1, 1) := by decide +kernel
theorem dX8_unpin_66 : decode cX8_unpin 66 = .ok (.iconst 0, 1) := by decide +kernel
theorem dX8_unpin_67 : decode cX8_unpin 67 = .ok (.invokevirtual 108, 3) := by decide +kernel
theorem dX8_unpin_70 : decode cX8_unpin 70 = .ok (.invokevirtual 137, 3) := by decide +kernel
theorem dX8_unpin_73 : decode cX8_unpin 73 = .ok (.ireturn, 1) := by decide +kernel
set_option maxRecDepth 20000 in
theorem ggX8_swap_X1_has : GoodIn wsX8_swap wsX1_has := goodIn_r _ [7, 8, 172, 173] (by decide +kernel) (by decide +kernel)
set_option maxRecDepth 20000 in
theorem gX8_swap_X1_has : GoodIn wsX8_swap (wsV RX8 105 RX1 yX1_has wsX1_has) := goodIn_app (goodIn_of _ (by decide +kernel)) ggX8_swap_X1_has
set_option maxRecDepth 20000 in
theorem ggX8_swap_X7_slotOf : GoodIn wsX8_swap wsX7_slotOf := goodIn_r _ [13, 14, 15, 16, 17, 12, 18, 174] (by decide +kernel) (by decide +kernel)
set_option maxRecDepth 20000 in
theorem gX8_swap_X7_slotOf : GoodIn wsX8_swap (wsV RX8 123 RX7 yX7_slotOf wsX7_slotOf) := goodIn_app (goodIn_of _ (by decide +kernel)) ggX8_swap_X7_slotOf
set_option maxRecDepth 20000 in
theorem ggX8_swap_X2_record : GoodIn wsX8_swap wsX2_record := goodIn_r _ [23, 24, 25, 26, 27, 28, 22, 29, 30, 31, 32, 33, 34, 35, 36, 37, 38, 39, 40, 41, 42, 43, 44, 45, 6, 46, 47, 48, 8, 49, 50, 51, 12, 52, 14, 53, 175, 176, 177, 169, 170, 171, 172, 173, 174] (by decide +kernel) (by decide +kernel)
set_option maxRecDepth 20000 in
theorem gX8_swap_X2_record : GoodIn wsX8_swap (wsV RX8 82 RX2 yX2_record wsX2_record) := goodIn_app (goodIn_of _ (by decide +kernel)) ggX8_swap_X2_record
set_option maxRecDepth 20000 in
theorem ggX8_swap_X7_exchange : GoodIn wsX8_swap wsX7_exchange := goodIn_r _ [57, 15, 16, 17, 12, 18, 14, 58, 59, 60, 61, 174] (by decide +kernel) (by decide +kernel)
set_option maxRecDepth 20000 in
theorem gX8_swap_X7_exchange : GoodIn wsX8_swap (wsV RX8 140 RX7 yX7_exchange wsX7_exchange) := goodIn_app (goodIn_of _ (by decide +kernel)) ggX8_swap_X7_exchange
set_option maxRecDepth 20000 in
theorem ggX8_swap_X8_breaksNow : GoodIn wsX8_swap wsX8_breaksNow := goodIn_r _ [66, 67, 1, 68, 69, 70, 71, 72, 73, 74, 75, 76, 77, 78, 79, 80, 81, 6, 82, 8, 83, 84, 85, 34, 86, 38, 87, 16, 17, 12, 18, 14, 88, 4, 5, 7, 89, 90, 91, 92, 93, 94, 95, 96, 97, 98, 99, 100, 47, 101, 102, 103, 104, 105, 65, 106, 107, 108, 109, 110, 111, 112, 113, 114, 115, 116, 117, 118, 119, 120, 121, 122, 123, 124, 125, 126, 127, 128, 129, 130, 131, 132, 133, 134, 135, 136, 137, 138, 139, 140, 141, 142, 143, 144, 145, 146, 147, 148, 149, 150, 151, 152, 153, 154, 155, 156, 157, 158, 159, 160, 161, 162, 163, 164, 165, 166, 167, 168, 169, 170, 171, 178, 179, 180, 181, 182, 183, 184, 185, 186, 187, 172, 173, 174] (by decide +kernel) (by decide +kernel)
set_option maxRecDepth 20000 in
theorem gX8_swap_X8_breaksNow : GoodIn wsX8_swap (wsV RX8 137 RX8 yX8_breaksNow wsX8_breaksNow) := goodIn_app (goodIn_of _ (by decide +kernel)) ggX8_swap_X8_breaksNow
theorem dX8_swap_0 : decode cX8_swap 0 = .ok (.aload_n 0, 1) := by decide +kernel
theorem dX8_swap_1 : decode cX8_swap 1 = .ok (.getfield 10, 3) := by decide +kernel
theorem dX8_swap_4 : decode cX8_swap 4 = .ok (.getfield 73, 3) := by decide +kernel
theorem dX8_swap_7 : decode cX8_swap 7 = .ok (.iload_n 1, 1) := by decide +kernel
theorem dX8_swap_8 : decode cX8_swap 8 = .ok (.invokevirtual 105, 3) := by decide +kernel
theorem dX8_swap_11 : decode cX8_swap 11 = .ok (.ifCond .eq 17, 3) := by decide +kernel
theorem dX8_swap_14 : decode cX8_swap 14 = .ok (.aload_n 0, 1) := by decide +kernel
theorem dX8_swap_15 : decode cX8_swap 15 = .ok (.getfield 10, 3) := by decide +kernel
theorem dX8_swap_18 : decode cX8_swap 18 = .ok (.getfield 73, 3) := by decide +kernel
theorem dX8_swap_21 : decode cX8_swap 21 = .ok (.iload_n 2, 1) := by decide +kernel
theorem dX8_swap_22 : decode cX8_swap 22 = .ok (.invokevirtual 105, 3) := by decide +kernel
theorem dX8_swap_25 : decode cX8_swap 25 = .ok (.ifCond .ne 5, 3) := by decide +kernel
theorem dX8_swap_28 : decode cX8_swap 28 = .ok (.iconst (-1), 1) := by decide +kernel
theorem dX8_swap_29 : decode cX8_swap 29 = .ok (.ireturn, 1) := by decide +kernel
theorem dX8_swap_30 : decode cX8_swap 30 = .ok (.iload_n 1, 1) := by decide +kernel
theorem dX8_swap_31 : decode cX8_swap 31 = .ok (.iload_n 2, 1) := by decide +kernel
theorem dX8_swap_32 : decode cX8_swap 32 = .ok (.if_icmp .ne 6, 3) := by decide +kernel
theorem dX8_swap_35 : decode cX8_swap 35 = .ok (.bipush (-2), 2) := by decide +kernel
theorem dX8_swap_37 : decode cX8_swap 37 = .ok (.ireturn, 1) := by decide +kernel
theorem dX8_swap_38 : decode cX8_swap 38 = .ok (.aload_n 0, 1) := by decide +kernel
theorem dX8_swap_39 : decode cX8_swap 39 = .ok (.getfield 10, 3) := by decide +kernel
theorem dX8_swap_42 : decode cX8_swap 42 = .ok (.getfield 120, 3) := by decide +kernel
theorem dX8_swap_45 : decode cX8_swap 45 = .ok (.iload_n 1, 1) := by decide +kernel
theorem dX8_swap_46 : decode cX8_swap 46 = .ok (.invokevirtual 123, 3) := by decide +kernel
theorem dX8_swap_49 : decode cX8_swap 49 = .ok (.istore_n 3, 1) := by decide +kernel
theorem dX8_swap_50 : decode cX8_swap 50 = .ok (.aload_n 0, 1) := by decide +kernel
theorem dX8_swap_51 : decode cX8_swap 51 = .ok (.getfield 10, 3) := by decide +kernel
theorem dX8_swap_54 : decode cX8_swap 54 = .ok (.getfield 120, 3) := by decide +kernel
theorem dX8_swap_57 : decode cX8_swap 57 = .ok (.iload_n 2, 1) := by decide +kernel
theorem dX8_swap_58 : decode cX8_swap 58 = .ok (.invokevirtual 123, 3) := by decide +kernel
theorem dX8_swap_61 : decode cX8_swap 61 = .ok (.istore 4, 2) := by decide +kernel
theorem dX8_swap_63 : decode cX8_swap 63 = .ok (.iload_n 3, 1) := by decide +kernel
theorem dX8_swap_64 : decode cX8_swap 64 = .ok (.bipush (-5), 2) := by decide +kernel
theorem dX8_swap_66 : decode cX8_swap 66 = .ok (.if_icmp .eq 10, 3) := by decide +kernel
theorem dX8_swap_69 : decode cX8_swap 69 = .ok (.iload 4, 2) := by decide +kernel
theorem dX8_swap_71 : decode cX8_swap 71 = .ok (.bipush (-5), 2) := by decide +kernel
theorem dX8_swap_73 : decode cX8_swap 73 = .ok (.if_icmp .ne 6, 3) := by decide +kernel
theorem dX8_swap_76 : decode cX8_swap 76 = .ok (.bipush (-4), 2) := by decide +kernel
theorem dX8_swap_78 : decode cX8_swap 78 = .ok (.ireturn, 1) := by decide +kernel
theorem dX8_swap_79 : decode cX8_swap 79 = .ok (.aload_n 0, 1) := by decide +kernel
theorem dX8_swap_80 : decode cX8_swap 80 = .ok (.getfield 22, 3) := by decide +kernel
theorem dX8_swap_83 : decode cX8_swap 83 = .ok (.aload_n 0, 1) := by decide +kernel
theorem dX8_swap_84 : decode cX8_swap 84 = .ok (.getfield 10, 3) := by decide +kernel
theorem dX8_swap_87 : decode cX8_swap 87 = .ok (.invokevirtual 82, 3) := by decide +kernel
theorem dX8_swap_90 : decode cX8_swap 90 = .ok (.aload_n 0, 1) := by decide +kernel
theorem dX8_swap_91 : decode cX8_swap 91 = .ok (.getfield 10, 3) := by decide +kernel
theorem dX8_swap_94 : decode cX8_swap 94 = .ok (.getfield 120, 3) := by decide +kernel
theorem dX8_swap_97 : decode cX8_swap 97 = .ok (.iload_n 3, 1) := by decide +kernel
theorem dX8_swap_98 : decode cX8_swap 98 = .ok (.iload 4, 2) := by decide +kernel
theorem dX8_swap_100 : decode cX8_swap 100 = .ok (.invokevirtual 140, 3) := by decide +kernel
theorem dX8_swap_103 : decode cX8_swap 103 = .ok (.aload_n 0, 1) := by decide +kernel
theorem dX8_swap_104 : decode cX8_swap 104 = .ok (.iconst (-1), 1) := by decide +kernel
theorem dX8_swap_105 : decode cX8_swap 105 = .ok (.invokevirtual 137, 3) := by decide +kernel
theorem dX8_swap_108 : decode cX8_swap 108 = .ok (.ireturn, 1) := by decide +kernel
set_option maxRecDepth 20000 in
theorem ggX8_straighten_X8_isThread : GoodIn wsX8_straighten wsX8_isThread := goodIn_r _ [8] (by decide +kernel) (by decide +kernel)
set_option maxRecDepth 20000 in
theorem gX8_straighten_X8_isThread : GoodIn wsX8_straighten (va_wsS RX8 65 yX8_isThread wsX8_isThread) := goodIn_app (goodIn_of _ (by decide +kernel)) ggX8_straighten_X8_isThread
set_option maxRecDepth 20000 in
theorem ggX8_straighten_X3_read : GoodIn wsX8_straighten wsX3_read := goodIn_r _ [13, 14, 15, 16, 17, 18, 19, 20, 21, 22, 23, 24, 25, 26, 27, 28, 29, 30, 31, 32, 33, 34, 35, 36, 37, 38, 39, 40, 41, 42, 43, 44, 12, 45, 46, 47, 48, 49, 50, 51, 52, 53, 54, 55, 56, 57, 58, 6, 7, 8, 59, 60, 61, 62, 63, 64, 65, 66, 67, 68, 69, 70, 71, 179, 180, 181, 182, 183, 184, 185, 186, 187, 188, 176, 177, 178, 189, 190, 191] (by decide +kernel) (by decide +kernel)
set_option maxRecDepth 20000 in
theorem gX8_straighten_X3_read : GoodIn wsX8_straighten (wsV RX8 144 RX3 yX3_read wsX3_read) := goodIn_app (goodIn_of _ (by decide +kernel)) ggX8_straighten_X3_read
set_option maxRecDepth 20000 in
theorem ggX8_straighten_X5_gather : GoodIn wsX8_straighten wsX5_gather := goodIn_r _ [76, 77, 78, 79, 80, 81, 82, 83, 84, 12, 85, 14, 86, 87, 88, 89, 15, 50, 51, 52, 23, 53, 54, 55, 56, 57, 58, 25, 90, 91, 92, 93, 94, 95, 96, 97, 46, 98, 99, 100, 101, 102, 103, 104, 105, 106, 107, 108, 109, 47, 192, 193, 194, 195, 196, 197, 198, 179, 180, 181, 182, 183, 184, 185, 186, 187, 188, 189, 190] (by decide +kernel) (by decide +kernel)
set_option maxRecDepth 20000 in
theorem gX8_straighten_X5_gather : GoodIn wsX8_straighten (wsV RX8 147 RX5 yX5_gather wsX5_gather) := goodIn_app (goodIn_of _ (by decide +kernel)) ggX8_straighten_X5_gather
set_option maxRecDepth 20000 in
theorem ggX8_straighten_X5_sort : GoodIn wsX8_straighten wsX5_sort := goodIn_r _ [113, 77, 114, 115, 116, 117, 75, 118, 80, 79, 119, 120, 121, 122, 192, 193, 194, 195, 196, 197, 198] (by decide +kernel) (by decide +kernel)
set_option maxRecDepth 20000 in
theorem gX8_straighten_X5_sort : GoodIn wsX8_straighten (wsV RX8 151 RX5 yX5_sort wsX5_sort) := goodIn_app (goodIn_of _ (by decide +kernel)) ggX8_straighten_X5_sort
set_option maxRecDepth 20000 in
theorem ggX8_straighten_X5_moved : GoodIn wsX8_straighten wsX5_moved := goodIn_r _ [126, 77, 114, 119, 120, 121, 75, 122, 192, 193, 194, 195, 196, 197, 198] (by decide +kernel) (by decide +kernel)
set_option maxRecDepth 20000 in
theorem gX8_straighten_X5_moved : GoodIn wsX8_straighten (wsV RX8 154 RX5 yX5_moved wsX5_moved) := goodIn_app (goodIn_of _ (by decide +kernel)) ggX8_straighten_X5_moved
set_option maxRecDepth 20000 in
theorem ggX8_straighten_X2_record : GoodIn wsX8_straighten wsX2_record := goodIn_r _ [131, 132, 133, 134, 135, 136, 130, 137, 138, 139, 140, 141, 29, 142, 143, 144, 31, 145, 146, 147, 148, 149, 150, 151, 23, 152, 54, 153, 25, 154, 155, 156, 35, 157, 37, 158, 199, 200, 201, 176, 177, 178, 189, 190, 191] (by decide +kernel) (by decide +kernel)
set_option maxRecDepth 20000 in
theorem gX8_straighten_X2_record : GoodIn wsX8_straighten (wsV RX8 82 RX2 yX2_record wsX2_record) := goodIn_app (goodIn_of _ (by decide +kernel)) ggX8_straighten_X2_record
set_option maxRecDepth 20000 in
theorem ggX8_straighten_X5_putOn : GoodIn wsX8_straighten wsX5_putOn := goodIn_r _ [162, 77, 81, 79, 114, 119, 120, 121, 75, 122, 163, 164, 165, 35, 166, 37, 192, 193, 194, 195, 196, 197, 198, 191] (by decide +kernel) (by decide +kernel)
set_option maxRecDepth 20000 in
theorem gX8_straighten_X5_putOn : GoodIn wsX8_straighten (wsV RX8 157 RX5 yX5_putOn wsX5_putOn) := goodIn_app (goodIn_of _ (by decide +kernel)) ggX8_straighten_X5_putOn
theorem dX8_straighten_0 : decode cX8_straighten 0 = .ok (.iload_n 1, 1) := by decide +kernel
theorem dX8_straighten_1 : decode cX8_straighten 1 = .ok (.invokestatic 65, 3) := by decide +kernel
theorem dX8_straighten_4 : decode cX8_straighten 4 = .ok (.ifCond .ne 5, 3) := by decide +kernel
theorem dX8_straighten_7 : decode cX8_straighten 7 = .ok (.iconst (-1), 1) := by decide +kernel
theorem dX8_straighten_8 : decode cX8_straighten 8 = .ok (.ireturn, 1) := by decide +kernel
theorem dX8_straighten_9 : decode cX8_straighten 9 = .ok (.aload_n 0, 1) := by decide +kernel
theorem dX8_straighten_10 : decode cX8_straighten 10 = .ok (.getfield 43, 3) := by decide +kernel
theorem dX8_straighten_13 : decode cX8_straighten 13 = .ok (.aload_n 0, 1) := by decide +kernel
theorem dX8_straighten_14 : decode cX8_straighten 14 = .ok (.getfield 10, 3) := by decide +kernel
theorem dX8_straighten_17 : decode cX8_straighten 17 = .ok (.aload_n 0, 1) := by decide +kernel
theorem dX8_straighten_18 : decode cX8_straighten 18 = .ok (.getfield 10, 3) := by decide +kernel
theorem dX8_straighten_21 : decode cX8_straighten 21 = .ok (.getfield 120, 3) := by decide +kernel
theorem dX8_straighten_24 : decode cX8_straighten 24 = .ok (.invokevirtual 144, 3) := by decide +kernel
theorem dX8_straighten_27 : decode cX8_straighten 27 = .ok (.aload_n 0, 1) := by decide +kernel
theorem dX8_straighten_28 : decode cX8_straighten 28 = .ok (.getfield 50, 3) := by decide +kernel
theorem dX8_straighten_31 : decode cX8_straighten 31 = .ok (.aload_n 0, 1) := by decide +kernel
theorem dX8_straighten_32 : decode cX8_straighten 32 = .ok (.getfield 43, 3) := by decide +kernel
theorem dX8_straighten_35 : decode cX8_straighten 35 = .ok (.iload_n 1, 1) := by decide +kernel
theorem dX8_straighten_36 : decode cX8_straighten 36 = .ok (.invokevirtual 147, 3) := by decide +kernel
theorem dX8_straighten_39 : decode cX8_straighten 39 = .ok (.aload_n 0, 1) := by decide +kernel
theorem dX8_straighten_40 : decode cX8_straighten 40 = .ok (.getfield 50, 3) := by decide +kernel
theorem dX8_straighten_43 : decode cX8_straighten 43 = .ok (.invokevirtual 151, 3) := by decide +kernel
theorem dX8_straighten_46 : decode cX8_straighten 46 = .ok (.aload_n 0, 1) := by decide +kernel
theorem dX8_straighten_47 : decode cX8_straighten 47 = .ok (.getfield 50, 3) := by decide +kernel
theorem dX8_straighten_50 : decode cX8_straighten 50 = .ok (.invokevirtual 154, 3) := by decide +kernel
theorem dX8_straighten_53 : decode cX8_straighten 53 = .ok (.istore_n 2, 1) := by decide +kernel
theorem dX8_straighten_54 : decode cX8_straighten 54 = .ok (.iload_n 2, 1) := by decide +kernel
theorem dX8_straighten_55 : decode cX8_straighten 55 = .ok (.ifCond .ne 6, 3) := by decide +kernel
theorem dX8_straighten_58 : decode cX8_straighten 58 = .ok (.bipush (-5), 2) := by decide +kernel
theorem dX8_straighten_60 : decode cX8_straighten 60 = .ok (.ireturn, 1) := by decide +kernel
theorem dX8_straighten_61 : decode cX8_straighten 61 = .ok (.aload_n 0, 1) := by decide +kernel
theorem dX8_straighten_62 : decode cX8_straighten 62 = .ok (.getfield 22, 3) := by decide +kernel
theorem dX8_straighten_65 : decode cX8_straighten 65 = .ok (.aload_n 0, 1) := by decide +kernel
theorem dX8_straighten_66 : decode cX8_straighten 66 = .ok (.getfield 10, 3) := by decide +kernel
theorem dX8_straighten_69 : decode cX8_straighten 69 = .ok (.invokevirtual 82, 3) := by decide +kernel
theorem dX8_straighten_72 : decode cX8_straighten 72 = .ok (.aload_n 0, 1) := by decide +kernel
theorem dX8_straighten_73 : decode cX8_straighten 73 = .ok (.getfield 50, 3) := by decide +kernel
theorem dX8_straighten_76 : decode cX8_straighten 76 = .ok (.aload_n 0, 1) := by decide +kernel
theorem dX8_straighten_77 : decode cX8_straighten 77 = .ok (.getfield 10, 3) := by decide +kernel
theorem dX8_straighten_80 : decode cX8_straighten 80 = .ok (.getfield 120, 3) := by decide +kernel
theorem dX8_straighten_83 : decode cX8_straighten 83 = .ok (.invokevirtual 157, 3) := by decide +kernel
theorem dX8_straighten_86 : decode cX8_straighten 86 = .ok (.iload_n 2, 1) := by decide +kernel
theorem dX8_straighten_87 : decode cX8_straighten 87 = .ok (.ireturn, 1) := by decide +kernel
set_option maxRecDepth 20000 in
theorem ggX8_swapScenes_X8_isScene : GoodIn wsX8_swapScenes wsX8_isScene := goodIn_r _ [6] (by decide +kernel) (by decide +kernel)
set_option maxRecDepth 20000 in
theorem gX8_swapScenes_X8_isScene : GoodIn wsX8_swapScenes (va_wsS RX8 161 yX8_isScene wsX8_isScene) := goodIn_app (goodIn_of _ (by decide +kernel)) ggX8_swapScenes_X8_isScene
set_option maxRecDepth 20000 in
theorem ggX8_swapScenes_X7_sizeOf : GoodIn wsX8_swapScenes wsX7_sizeOf := goodIn_r _ [11, 12, 13, 14, 10, 15, 4, 5, 6, 16, 17, 18, 19, 20, 21, 22, 184] (by decide +kernel) (by decide +kernel)
set_option maxRecDepth 20000 in
theorem gX8_swapScenes_X7_sizeOf : GoodIn wsX8_swapScenes (wsV RX8 164 RX7 yX7_sizeOf wsX7_sizeOf) := goodIn_app (goodIn_of _ (by decide +kernel)) ggX8_swapScenes_X7_sizeOf
set_option maxRecDepth 20000 in
theorem ggX8_swapScenes_X2_record : GoodIn wsX8_swapScenes wsX2_record := goodIn_r _ [27, 28, 29, 30, 31, 32, 26, 33, 34, 35, 36, 37, 38, 39, 40, 41, 42, 43, 44, 45, 46, 47, 48, 49, 50, 51, 52, 53, 54, 55, 56, 57, 10, 58, 22, 59, 185, 186, 187, 181, 182, 183, 188, 189, 184] (by decide +kernel) (by decide +kernel)
set_option maxRecDepth 20000 in
theorem gX8_swapScenes_X2_record : GoodIn wsX8_swapScenes (wsV RX8 82 RX2 yX2_record wsX2_record) := goodIn_app (goodIn_of _ (by decide +kernel)) ggX8_swapScenes_X2_record
set_option maxRecDepth 20000 in
theorem ggX8_swapScenes_X7_exchangeScenes : GoodIn wsX8_swapScenes wsX7_exchangeScenes := goodIn_r _ [63, 16, 5, 17, 64, 65, 66, 10, 67, 18, 19, 20, 21, 22, 68, 69, 70, 71, 184] (by decide +kernel) (by decide +kernel)
set_option maxRecDepth 20000 in
theorem gX8_swapScenes_X7_exchangeScenes : GoodIn wsX8_swapScenes (wsV RX8 167 RX7 yX7_exchangeScenes wsX7_exchangeScenes) := goodIn_app (goodIn_of _ (by decide +kernel)) ggX8_swapScenes_X7_exchangeScenes
set_option maxRecDepth 20000 in
theorem ggX8_swapScenes_X8_breaksNow : GoodIn wsX8_swapScenes wsX8_breaksNow := goodIn_r _ [75, 76, 1, 77, 78, 79, 80, 81, 82, 83, 84, 85, 86, 87, 88, 89, 90, 50, 91, 54, 92, 93, 94, 38, 95, 42, 96, 19, 20, 10, 21, 22, 97, 98, 99, 100, 101, 102, 103, 104, 105, 106, 107, 108, 109, 110, 111, 112, 52, 113, 114, 115, 116, 117, 5, 118, 119, 120, 121, 122, 123, 124, 125, 126, 127, 128, 129, 130, 131, 132, 133, 134, 135, 136, 137, 138, 139, 140, 141, 142, 143, 144, 145, 146, 147, 148, 149, 150, 151, 152, 153, 154, 155, 156, 157, 158, 159, 160, 161, 162, 163, 164, 165, 166, 167, 168, 169, 170, 171, 172, 173, 174, 175, 176, 177, 178, 179, 180, 181, 182, 183, 190, 191, 192, 193, 194, 195, 196, 197, 198, 199, 188, 189, 184] (by decide +kernel) (by decide +kernel)
set_option maxRecDepth 20000 in
theorem gX8_swapScenes_X8_breaksNow : GoodIn wsX8_swapScenes (wsV RX8 137 RX8 yX8_breaksNow wsX8_breaksNow) := goodIn_app (goodIn_of _ (by decide +kernel)) ggX8_swapScenes_X8_breaksNow
theorem dX8_swapScenes_0 : decode cX8_swapScenes 0 = .ok (.iload_n 1, 1) := by decide +kernel
theorem dX8_swapScenes_1 : decode cX8_swapScenes 1 = .ok (.invokestatic 161, 3) := by decide +kernel
theorem dX8_swapScenes_4 : decode cX8_swapScenes 4 = .ok (.ifCond .eq 10, 3) := by decide +kernel
theorem dX8_swapScenes_7 : decode cX8_swapScenes 7 = .ok (.iload_n 2, 1) := by decide +kernel
theorem dX8_swapScenes_8 : decode cX8_swapScenes 8 = .ok (.invokestatic 161, 3) := by decide +kernel
theorem dX8_swapScenes_11 : decode cX8_swapScenes 11 = .ok (.ifCond .ne 5, 3) := by decide +kernel
theorem dX8_swapScenes_14 : decode cX8_swapScenes 14 = .ok (.iconst (-1), 1) := by decide +kernel
theorem dX8_swapScenes_15 : decode cX8_swapScenes 15 = .ok (.ireturn, 1) := by decide +kernel
theorem dX8_swapScenes_16 : decode cX8_swapScenes 16 = .ok (.iload_n 1, 1) := by decide +kernel
theorem dX8_swapScenes_17 : decode cX8_swapScenes 17 = .ok (.iload_n 2, 1) := by decide +kernel
theorem dX8_swapScenes_18 : decode cX8_swapScenes 18 = .ok (.if_icmp .ne 6, 3) := by decide +kernel
theorem dX8_swapScenes_21 : decode cX8_swapScenes 21 = .ok (.bipush (-2), 2) := by decide +kernel
theorem dX8_swapScenes_23 : decode cX8_swapScenes 23 = .ok (.ireturn, 1) := by decide +kernel
theorem dX8_swapScenes_24 : decode cX8_swapScenes 24 = .ok (.aload_n 0, 1) := by decide +kernel
theorem dX8_swapScenes_25 : decode cX8_swapScenes 25 = .ok (.getfield 10, 3) := by decide +kernel
theorem dX8_swapScenes_28 : decode cX8_swapScenes 28 = .ok (.getfield 120, 3) := by decide +kernel
theorem dX8_swapScenes_31 : decode cX8_swapScenes 31 = .ok (.iload_n 1, 1) := by decide +kernel
theorem dX8_swapScenes_32 : decode cX8_swapScenes 32 = .ok (.invokevirtual 164, 3) := by decide +kernel
theorem dX8_swapScenes_35 : decode cX8_swapScenes 35 = .ok (.ifCond .ne 20, 3) := by decide +kernel
theorem dX8_swapScenes_38 : decode cX8_swapScenes 38 = .ok (.aload_n 0, 1) := by decide +kernel
theorem dX8_swapScenes_39 : decode cX8_swapScenes 39 = .ok (.getfield 10, 3) := by decide +kernel
theorem dX8_swapScenes_42 : decode cX8_swapScenes 42 = .ok (.getfield 120, 3) := by decide +kernel
theorem dX8_swapScenes_45 : decode cX8_swapScenes 45 = .ok (.iload_n 2, 1) := by decide +kernel
theorem dX8_swapScenes_46 : decode cX8_swapScenes 46 = .ok (.invokevirtual 164, 3) := by decide +kernel
theorem dX8_swapScenes_49 : decode cX8_swapScenes 49 = .ok (.ifCond .ne 6, 3) := by decide +kernel
theorem dX8_swapScenes_52 : decode cX8_swapScenes 52 = .ok (.bipush (-5), 2) := by decide +kernel
theorem dX8_swapScenes_54 : decode cX8_swapScenes 54 = .ok (.ireturn, 1) := by decide +kernel
theorem dX8_swapScenes_55 : decode cX8_swapScenes 55 = .ok (.aload_n 0, 1) := by decide +kernel
theorem dX8_swapScenes_56 : decode cX8_swapScenes 56 = .ok (.getfield 22, 3) := by decide +kernel
theorem dX8_swapScenes_59 : decode cX8_swapScenes 59 = .ok (.aload_n 0, 1) := by decide +kernel
theorem dX8_swapScenes_60 : decode cX8_swapScenes 60 = .ok (.getfield 10, 3) := by decide +kernel
theorem dX8_swapScenes_63 : decode cX8_swapScenes 63 = .ok (.invokevirtual 82, 3) := by decide +kernel
theorem dX8_swapScenes_66 : decode cX8_swapScenes 66 = .ok (.aload_n 0, 1) := by decide +kernel
theorem dX8_swapScenes_67 : decode cX8_swapScenes 67 = .ok (.getfield 10, 3) := by decide +kernel
theorem dX8_swapScenes_70 : decode cX8_swapScenes 70 = .ok (.getfield 120, 3) := by decide +kernel
theorem dX8_swapScenes_73 : decode cX8_swapScenes 73 = .ok (.iload_n 1, 1) := by decide +kernel
theorem dX8_swapScenes_74 : decode cX8_swapScenes 74 = .ok (.iload_n 2, 1) := by decide +kernel
theorem dX8_swapScenes_75 : decode cX8_swapScenes 75 = .ok (.invokevirtual 167, 3) := by decide +kernel
theorem dX8_swapScenes_78 : decode cX8_swapScenes 78 = .ok (.aload_n 0, 1) := by decide +kernel
theorem dX8_swapScenes_79 : decode cX8_swapScenes 79 = .ok (.iconst (-1), 1) := by decide +kernel
theorem dX8_swapScenes_80 : decode cX8_swapScenes 80 = .ok (.invokevirtual 137, 3) := by decide +kernel
theorem dX8_swapScenes_83 : decode cX8_swapScenes 83 = .ok (.ireturn, 1) := by decide +kernel
set_option maxRecDepth 20000 in
theorem ggX8_undo_X2_takeBack : GoodIn wsX8_undo wsX2_takeBack := goodIn_r _ [7, 8, 9, 10, 11, 6, 12, 13, 14, 15, 16, 17, 18, 19, 20, 21, 22, 23, 24, 25, 26, 27, 28, 29, 30, 31, 32, 33, 34, 35, 36, 37, 38, 39, 40, 41, 55, 56, 57, 58, 59, 60, 61, 62, 63] (by decide +kernel) (by decide +kernel)
set_option maxRecDepth 20000 in
theorem gX8_undo_X2_takeBack : GoodIn wsX8_undo (wsV RX8 198 RX2 yX2_takeBack wsX2_takeBack) := goodIn_app (goodIn_of _ (by decide +kernel)) ggX8_undo_X2_takeBack
set_option maxRecDepth 20000 in
theorem ggX8_undo_X2_size : GoodIn wsX8_undo wsX2_size := goodIn_r _ [45, 8, 55, 56, 57] (by decide +kernel) (by decide +kernel)
set_option maxRecDepth 20000 in
theorem gX8_undo_X2_size : GoodIn wsX8_undo (wsV RX8 202 RX2 yX2_size wsX2_size) := goodIn_app (goodIn_of _ (by decide +kernel)) ggX8_undo_X2_size
theorem dX8_undo_0 : decode cX8_undo 0 = .ok (.aload_n 0, 1) := by decide +kernel
theorem dX8_undo_1 : decode cX8_undo 1 = .ok (.getfield 22, 3) := by decide +kernel
theorem dX8_undo_4 : decode cX8_undo 4 = .ok (.aload_n 0, 1) := by decide +kernel
theorem dX8_undo_5 : decode cX8_undo 5 = .ok (.getfield 10, 3) := by decide +kernel
theorem dX8_undo_8 : decode cX8_undo 8 = .ok (.invokevirtual 198, 3) := by decide +kernel
theorem dX8_undo_11 : decode cX8_undo 11 = .ok (.ifCond .eq 13, 3) := by decide +kernel
theorem dX8_undo_14 : decode cX8_undo 14 = .ok (.aload_n 0, 1) := by decide +kernel
theorem dX8_undo_15 : decode cX8_undo 15 = .ok (.getfield 22, 3) := by decide +kernel
theorem dX8_undo_18 : decode cX8_undo 18 = .ok (.invokevirtual 202, 3) := by decide +kernel
theorem dX8_undo_21 : decode cX8_undo 21 = .ok (.goto 5, 3) := by decide +kernel
theorem dX8_undo_24 : decode cX8_undo 24 = .ok (.bipush (-5), 2) := by decide +kernel
theorem dX8_undo_26 : decode cX8_undo 26 = .ok (.ireturn, 1) := by decide +kernel
set_option maxRecDepth 20000 in
theorem ggX8_keep_X4_copyFrom : GoodIn wsX8_keep wsX4_copyFrom := goodIn_r _ [8, 9, 10, 11, 12, 13, 14, 15, 16, 17, 18, 19, 20, 21, 22, 23, 24, 25, 26, 27, 28, 29, 30, 52, 53, 54, 55, 56, 57] (by decide +kernel) (by decide +kernel)
set_option maxRecDepth 20000 in
theorem gX8_keep_X4_copyFrom : GoodIn wsX8_keep (wsV RX8 203 RX4 yX4_copyFrom wsX4_copyFrom) := goodIn_app (goodIn_of _ (by decide +kernel)) ggX8_keep_X4_copyFrom
set_option maxRecDepth 20000 in
theorem ggX8_keep_X7_cards : GoodIn wsX8_keep wsX7_cards := goodIn_r _ [34, 29, 35, 36, 37, 27, 38, 39, 40, 41, 42, 57] (by decide +kernel) (by decide +kernel)
set_option maxRecDepth 20000 in
theorem gX8_keep_X7_cards : GoodIn wsX8_keep (wsV RX8 206 RX7 yX7_cards wsX7_cards) := goodIn_app (goodIn_of _ (by decide +kernel)) ggX8_keep_X7_cards
theorem dX8_keep_0 : decode cX8_keep 0 = .ok (.aload_n 0, 1) := by decide +kernel
theorem dX8_keep_1 : decode cX8_keep 1 = .ok (.getfield 16, 3) := by decide +kernel
theorem dX8_keep_4 : decode cX8_keep 4 = .ok (.aload_n 0, 1) := by decide +kernel
theorem dX8_keep_5 : decode cX8_keep 5 = .ok (.getfield 10, 3) := by decide +kernel
theorem dX8_keep_8 : decode cX8_keep 8 = .ok (.invokevirtual 203, 3) := by decide +kernel
theorem dX8_keep_11 : decode cX8_keep 11 = .ok (.aload_n 0, 1) := by decide +kernel
theorem dX8_keep_12 : decode cX8_keep 12 = .ok (.iconst 1, 1) := by decide +kernel
theorem dX8_keep_13 : decode cX8_keep 13 = .ok (.putfield 61, 3) := by decide +kernel
theorem dX8_keep_16 : decode cX8_keep 16 = .ok (.aload_n 0, 1) := by decide +kernel
theorem dX8_keep_17 : decode cX8_keep 17 = .ok (.getfield 10, 3) := by decide +kernel
theorem dX8_keep_20 : decode cX8_keep 20 = .ok (.getfield 120, 3) := by decide +kernel
theorem dX8_keep_23 : decode cX8_keep 23 = .ok (.invokevirtual 206, 3) := by decide +kernel
theorem dX8_keep_26 : decode cX8_keep 26 = .ok (.ireturn, 1) := by decide +kernel
set_option maxRecDepth 20000 in
theorem ggX8_restore_X2_record : GoodIn wsX8_restore wsX2_record := goodIn_r _ [9, 10, 11, 12, 13, 14, 8, 15, 16, 17, 18, 19, 20, 21, 22, 23, 24, 25, 26, 27, 28, 29, 30, 31, 32, 33, 34, 35, 36, 37, 38, 39, 40, 41, 42, 43, 69, 70, 71, 66, 67, 68, 72, 73, 74] (by decide +kernel) (by decide +kernel)
set_option maxRecDepth 20000 in
theorem gX8_restore_X2_record : GoodIn wsX8_restore (wsV RX8 82 RX2 yX2_record wsX2_record) := goodIn_app (goodIn_of _ (by decide +kernel)) ggX8_restore_X2_record
set_option maxRecDepth 20000 in
theorem ggX8_restore_X4_copyFrom : GoodIn wsX8_restore wsX4_copyFrom := goodIn_r _ [21, 22, 23, 24, 25, 26, 27, 28, 29, 30, 31, 32, 33, 34, 35, 36, 37, 38, 39, 40, 41, 42, 43, 66, 67, 68, 72, 73, 74] (by decide +kernel) (by decide +kernel)
set_option maxRecDepth 20000 in
theorem gX8_restore_X4_copyFrom : GoodIn wsX8_restore (wsV RX8 203 RX4 yX4_copyFrom wsX4_copyFrom) := goodIn_app (goodIn_of _ (by decide +kernel)) ggX8_restore_X4_copyFrom
set_option maxRecDepth 20000 in
theorem ggX8_restore_X7_cards : GoodIn wsX8_restore wsX7_cards := goodIn_r _ [48, 42, 49, 50, 51, 40, 52, 53, 54, 55, 56, 74] (by decide +kernel) (by decide +kernel)
set_option maxRecDepth 20000 in
theorem gX8_restore_X7_cards : GoodIn wsX8_restore (wsV RX8 206 RX7 yX7_cards wsX7_cards) := goodIn_app (goodIn_of _ (by decide +kernel)) ggX8_restore_X7_cards
theorem dX8_restore_0 : decode cX8_restore 0 = .ok (.aload_n 0, 1) := by decide +kernel
theorem dX8_restore_1 : decode cX8_restore 1 = .ok (.getfield 61, 3) := by decide +kernel
theorem dX8_restore_4 : decode cX8_restore 4 = .ok (.ifCond .ne 6, 3) := by decide +kernel
theorem dX8_restore_7 : decode cX8_restore 7 = .ok (.bipush (-5), 2) := by decide +kernel
theorem dX8_restore_9 : decode cX8_restore 9 = .ok (.ireturn, 1) := by decide +kernel
theorem dX8_restore_10 : decode cX8_restore 10 = .ok (.aload_n 0, 1) := by decide +kernel
theorem dX8_restore_11 : decode cX8_restore 11 = .ok (.getfield 22, 3) := by decide +kernel
theorem dX8_restore_14 : decode cX8_restore 14 = .ok (.aload_n 0, 1) := by decide +kernel
theorem dX8_restore_15 : decode cX8_restore 15 = .ok (.getfield 10, 3) := by decide +kernel
theorem dX8_restore_18 : decode cX8_restore 18 = .ok (.invokevirtual 82, 3) := by decide +kernel
theorem dX8_restore_21 : decode cX8_restore 21 = .ok (.aload_n 0, 1) := by decide +kernel
theorem dX8_restore_22 : decode cX8_restore 22 = .ok (.getfield 10, 3) := by decide +kernel
theorem dX8_restore_25 : decode cX8_restore 25 = .ok (.aload_n 0, 1) := by decide +kernel
theorem dX8_restore_26 : decode cX8_restore 26 = .ok (.getfield 16, 3) := by decide +kernel
theorem dX8_restore_29 : decode cX8_restore 29 = .ok (.invokevirtual 203, 3) := by decide +kernel
theorem dX8_restore_32 : decode cX8_restore 32 = .ok (.aload_n 0, 1) := by decide +kernel
theorem dX8_restore_33 : decode cX8_restore 33 = .ok (.getfield 10, 3) := by decide +kernel
theorem dX8_restore_36 : decode cX8_restore 36 = .ok (.getfield 120, 3) := by decide +kernel
theorem dX8_restore_39 : decode cX8_restore 39 = .ok (.invokevirtual 206, 3) := by decide +kernel
theorem dX8_restore_42 : decode cX8_restore 42 = .ok (.ireturn, 1) := by decide +kernel
set_option maxRecDepth 20000 in
theorem ggX8_card_X1_has : GoodIn wsX8_card wsX1_has := goodIn_r _ [7, 8, 112, 113] (by decide +kernel) (by decide +kernel)
set_option maxRecDepth 20000 in
theorem gX8_card_X1_has : GoodIn wsX8_card (wsV RX8 105 RX1 yX1_has wsX1_has) := goodIn_app (goodIn_of _ (by decide +kernel)) ggX8_card_X1_has
set_option maxRecDepth 20000 in
theorem ggX8_card_X1_number : GoodIn wsX8_card wsX1_number := goodIn_r _ [12, 13, 14, 15, 16, 6, 17, 8, 112, 113] (by decide +kernel) (by decide +kernel)
set_option maxRecDepth 20000 in
theorem gX8_card_X1_number : GoodIn wsX8_card (wsV RX8 108 RX1 yX1_number wsX1_number) := goodIn_app (goodIn_of _ (by decide +kernel)) ggX8_card_X1_number
set_option maxRecDepth 20000 in
theorem ggX8_card_X3_read : GoodIn wsX8_card wsX3_read := goodIn_r _ [22, 23, 24, 25, 26, 27, 28, 29, 30, 31, 6, 32, 8, 33, 34, 35, 36, 37, 38, 39, 40, 41, 42, 43, 44, 45, 4, 5, 7, 46, 47, 48, 21, 49, 50, 51, 52, 53, 54, 10, 11, 12, 13, 14, 15, 16, 17, 55, 56, 57, 58, 59, 60, 61, 62, 63, 64, 65, 66, 67, 68, 69, 70, 114, 115, 116, 117, 118, 119, 120, 121, 122, 123, 109, 110, 111, 112, 113, 124] (by decide +kernel) (by decide +kernel)
set_option maxRecDepth 20000 in
theorem gX8_card_X3_read : GoodIn wsX8_card (wsV RX8 144 RX3 yX3_read wsX3_read) := goodIn_app (goodIn_of _ (by decide +kernel)) ggX8_card_X3_read
set_option maxRecDepth 20000 in
theorem ggX8_card_X3_rankOf : GoodIn wsX8_card wsX3_rankOf := goodIn_r _ [74, 23, 75, 76, 77, 21, 78, 50, 79, 80, 81, 82, 114, 115, 116, 117, 118, 119, 120, 121, 122, 123] (by decide +kernel) (by decide +kernel)
set_option maxRecDepth 20000 in
theorem gX8_card_X3_rankOf : GoodIn wsX8_card (wsV RX8 208 RX3 yX3_rankOf wsX3_rankOf) := goodIn_app (goodIn_of _ (by decide +kernel)) ggX8_card_X3_rankOf
set_option maxRecDepth 20000 in
theorem ggX8_card_X3_sceneAt : GoodIn wsX8_card wsX3_sceneAt := goodIn_r _ [86, 51, 79, 80, 81, 21, 82, 23, 114, 115, 116, 117, 118, 119, 120, 121, 122, 123] (by decide +kernel) (by decide +kernel)
set_option maxRecDepth 20000 in
theorem gX8_card_X3_sceneAt : GoodIn wsX8_card (wsV RX8 211 RX3 yX3_sceneAt wsX3_sceneAt) := goodIn_app (goodIn_of _ (by decide +kernel)) ggX8_card_X3_sceneAt
set_option maxRecDepth 20000 in
theorem ggX8_card_X3_placeAt : GoodIn wsX8_card wsX3_placeAt := goodIn_r _ [90, 51, 79, 80, 81, 21, 82, 23, 114, 115, 116, 117, 118, 119, 120, 121, 122, 123] (by decide +kernel) (by decide +kernel)
set_option maxRecDepth 20000 in
theorem gX8_card_X3_placeAt : GoodIn wsX8_card (wsV RX8 214 RX3 yX3_placeAt wsX3_placeAt) := goodIn_app (goodIn_of _ (by decide +kernel)) ggX8_card_X3_placeAt
set_option maxRecDepth 20000 in
theorem ggX8_card_X3_isBreak : GoodIn wsX8_card wsX3_isBreak := goodIn_r _ [94, 53, 24, 79, 80, 81, 21, 82, 23, 54, 10, 11, 6, 12, 13, 14, 15, 16, 17, 8, 114, 115, 116, 117, 118, 119, 120, 121, 122, 123, 112, 113] (by decide +kernel) (by decide +kernel)
set_option maxRecDepth 20000 in
theorem gX8_card_X3_isBreak : GoodIn wsX8_card (wsV RX8 217 RX3 yX3_isBreak wsX3_isBreak) := goodIn_app (goodIn_of _ (by decide +kernel)) ggX8_card_X3_isBreak
set_option maxRecDepth 20000 in
theorem ggX8_card_X3_rankAhead : GoodIn wsX8_card wsX3_rankAhead := goodIn_r _ [98, 52, 79, 80, 81, 21, 82, 23, 114, 115, 116, 117, 118, 119, 120, 121, 122, 123] (by decide +kernel) (by decide +kernel)
set_option maxRecDepth 20000 in
theorem gX8_card_X3_rankAhead : GoodIn wsX8_card (wsV RX8 220 RX3 yX3_rankAhead wsX3_rankAhead) := goodIn_app (goodIn_of _ (by decide +kernel)) ggX8_card_X3_rankAhead
set_option maxRecDepth 20000 in
theorem ggX8_card_X3_cardAt : GoodIn wsX8_card wsX3_cardAt := goodIn_r _ [78, 50, 79, 80, 81, 21, 82, 23, 114, 115, 116, 117, 118, 119, 120, 121, 122, 123] (by decide +kernel) (by decide +kernel)
set_option maxRecDepth 20000 in
theorem gX8_card_X3_cardAt : GoodIn wsX8_card (wsV RX8 223 RX3 yX3_cardAt wsX3_cardAt) := goodIn_app (goodIn_of _ (by decide +kernel)) ggX8_card_X3_cardAt
theorem dX8_card_0 : decode cX8_card 0 = .ok (.aload_n 0, 1) := by decide +kernel
theorem dX8_card_1 : decode cX8_card 1 = .ok (.getfield 10, 3) := by decide +kernel
theorem dX8_card_4 : decode cX8_card 4 = .ok (.getfield 73, 3) := by decide +kernel
theorem dX8_card_7 : decode cX8_card 7 = .ok (.iload_n 1, 1) := by decide +kernel
theorem dX8_card_8 : decode cX8_card 8 = .ok (.invokevirtual 105, 3) := by decide +kernel
theorem dX8_card_11 : decode cX8_card 11 = .ok (.ifCond .ne 5, 3) := by decide +kernel
theorem dX8_card_14 : decode cX8_card 14 = .ok (.iconst (-1), 1) := by decide +kernel
theorem dX8_card_15 : decode cX8_card 15 = .ok (.ireturn, 1) := by decide +kernel
theorem dX8_card_16 : decode cX8_card 16 = .ok (.iload_n 2, 1) := by decide +kernel
theorem dX8_card_17 : decode cX8_card 17 = .ok (.ifCond .lt 21, 3) := by decide +kernel
theorem dX8_card_20 : decode cX8_card 20 = .ok (.iload_n 2, 1) := by decide +kernel
theorem dX8_card_21 : decode cX8_card 21 = .ok (.iconst 5, 1) := by decide +kernel
theorem dX8_card_22 : decode cX8_card 22 = .ok (.if_icmp .ge 16, 3) := by decide +kernel
theorem dX8_card_25 : decode cX8_card 25 = .ok (.aload_n 0, 1) := by decide +kernel
theorem dX8_card_26 : decode cX8_card 26 = .ok (.getfield 10, 3) := by decide +kernel
theorem dX8_card_29 : decode cX8_card 29 = .ok (.getfield 73, 3) := by decide +kernel
theorem dX8_card_32 : decode cX8_card 32 = .ok (.iload_n 1, 1) := by decide +kernel
theorem dX8_card_33 : decode cX8_card 33 = .ok (.iload_n 2, 1) := by decide +kernel
theorem dX8_card_34 : decode cX8_card 34 = .ok (.invokevirtual 108, 3) := by decide +kernel
