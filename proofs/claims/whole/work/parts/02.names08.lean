theorem dX9_errorOf_12 : decode cX9_errorOf 12 = .ok (.invokestatic 48, 3) := by decide +kernel
theorem dX9_errorOf_15 : decode cX9_errorOf 15 = .ok (.ifCond .ne 5, 3) := by decide +kernel
theorem dX9_errorOf_18 : decode cX9_errorOf 18 = .ok (.iconst (-1), 1) := by decide +kernel
theorem dX9_errorOf_19 : decode cX9_errorOf 19 = .ok (.ireturn, 1) := by decide +kernel
theorem dX9_errorOf_20 : decode cX9_errorOf 20 = .ok (.aload_n 0, 1) := by decide +kernel
theorem dX9_errorOf_21 : decode cX9_errorOf 21 = .ok (.getfield 7, 3) := by decide +kernel
theorem dX9_errorOf_24 : decode cX9_errorOf 24 = .ok (.iload_n 2, 1) := by decide +kernel
theorem dX9_errorOf_25 : decode cX9_errorOf 25 = .ok (.invokestatic 55, 3) := by decide +kernel
theorem dX9_errorOf_28 : decode cX9_errorOf 28 = .ok (.iaload, 1) := by decide +kernel
theorem dX9_errorOf_29 : decode cX9_errorOf 29 = .ok (.aload_n 0, 1) := by decide +kernel
theorem dX9_errorOf_30 : decode cX9_errorOf 30 = .ok (.iload_n 1, 1) := by decide +kernel
theorem dX9_errorOf_31 : decode cX9_errorOf 31 = .ok (.invokevirtual 73, 3) := by decide +kernel
theorem dX9_errorOf_34 : decode cX9_errorOf 34 = .ok (.iload_n 2, 1) := by decide +kernel
theorem dX9_errorOf_35 : decode cX9_errorOf 35 = .ok (.if_icmp .ne 7, 3) := by decide +kernel
theorem dX9_errorOf_38 : decode cX9_errorOf 38 = .ok (.iconst 1, 1) := by decide +kernel
theorem dX9_errorOf_39 : decode cX9_errorOf 39 = .ok (.goto 4, 3) := by decide +kernel
theorem dX9_errorOf_42 : decode cX9_errorOf 42 = .ok (.iconst 0, 1) := by decide +kernel
theorem dX9_errorOf_43 : decode cX9_errorOf 43 = .ok (.isub, 1) := by decide +kernel
theorem dX9_errorOf_44 : decode cX9_errorOf 44 = .ok (.istore 4, 2) := by decide +kernel
theorem dX9_errorOf_46 : decode cX9_errorOf 46 = .ok (.iload 4, 2) := by decide +kernel
theorem dX9_errorOf_48 : decode cX9_errorOf 48 = .ok (.bipush 6, 2) := by decide +kernel
theorem dX9_errorOf_50 : decode cX9_errorOf 50 = .ok (.if_icmp .ne 8, 3) := by decide +kernel
theorem dX9_errorOf_53 : decode cX9_errorOf 53 = .ok (.bipush (-3), 2) := by decide +kernel
theorem dX9_errorOf_55 : decode cX9_errorOf 55 = .ok (.goto 19, 3) := by decide +kernel
theorem dX9_errorOf_58 : decode cX9_errorOf 58 = .ok (.iload_n 3, 1) := by decide +kernel
theorem dX9_errorOf_59 : decode cX9_errorOf 59 = .ok (.iconst 0, 1) := by decide +kernel
theorem dX9_errorOf_60 : decode cX9_errorOf 60 = .ok (.iload 4, 2) := by decide +kernel
theorem dX9_errorOf_62 : decode cX9_errorOf 62 = .ok (.invokestatic 48, 3) := by decide +kernel
theorem dX9_errorOf_65 : decode cX9_errorOf 65 = .ok (.ifCond .ne 8, 3) := by decide +kernel
theorem dX9_errorOf_68 : decode cX9_errorOf 68 = .ok (.bipush (-2), 2) := by decide +kernel
theorem dX9_errorOf_70 : decode cX9_errorOf 70 = .ok (.goto 4, 3) := by decide +kernel
theorem dX9_errorOf_73 : decode cX9_errorOf 73 = .ok (.iconst 0, 1) := by decide +kernel
theorem dX9_errorOf_74 : decode cX9_errorOf 74 = .ok (.ireturn, 1) := by decide +kernel
set_option maxRecDepth 20000 in
theorem ggX9_pin_X9_errorOf : GoodIn wsX9_pin wsX9_errorOf := goodIn_r _ [5, 6, 7, 8, 9, 4, 10, 11, 12, 13, 14, 15, 16, 17, 18, 19, 20, 60, 61, 62, 63, 64, 65, 66, 67, 68, 69, 70, 71, 72, 73, 74, 75, 76, 77] (by decide +kernel) (by decide +kernel)
set_option maxRecDepth 20000 in
theorem gX9_pin_X9_errorOf : GoodIn wsX9_pin (wsV RX9 125 RX9 yX9_errorOf wsX9_errorOf) := goodIn_app (goodIn_of _ (by decide +kernel)) ggX9_pin_X9_errorOf
set_option maxRecDepth 20000 in
theorem ggX9_pin_X9_sceneOf : GoodIn wsX9_pin wsX9_sceneOf := goodIn_r _ [20, 6, 14, 15, 4, 16, 60, 61, 62, 63, 64, 65, 66, 67, 68, 69, 70, 71, 72, 73, 74, 75, 76, 77] (by decide +kernel) (by decide +kernel)
set_option maxRecDepth 20000 in
theorem gX9_pin_X9_sceneOf : GoodIn wsX9_pin (wsV RX9 73 RX9 yX9_sceneOf wsX9_sceneOf) := goodIn_app (goodIn_of _ (by decide +kernel)) ggX9_pin_X9_sceneOf
set_option maxRecDepth 20000 in
theorem ggX9_pin_X9_placeOf : GoodIn wsX9_pin wsX9_placeOf := goodIn_r _ [24, 6, 14, 15, 4, 16, 60, 61, 62, 63, 64, 65, 66, 67, 68, 69, 70, 71, 72, 73, 74, 75, 76, 77] (by decide +kernel) (by decide +kernel)
set_option maxRecDepth 20000 in
theorem gX9_pin_X9_placeOf : GoodIn wsX9_pin (wsV RX9 122 RX9 yX9_placeOf wsX9_placeOf) := goodIn_app (goodIn_of _ (by decide +kernel)) ggX9_pin_X9_placeOf
set_option maxRecDepth 20000 in
theorem ggX9_pin_X9_record : GoodIn wsX9_pin wsX9_record := goodIn_r _ [28, 29, 30, 6, 60, 61, 62, 63, 64, 65, 66, 67, 68, 69, 70, 71, 72, 73, 74, 75, 76, 77] (by decide +kernel) (by decide +kernel)
set_option maxRecDepth 20000 in
theorem gX9_pin_X9_record : GoodIn wsX9_pin (wsV RX9 80 RX9 yX9_record wsX9_record) := goodIn_app (goodIn_of _ (by decide +kernel)) ggX9_pin_X9_record
set_option maxRecDepth 20000 in
theorem ggX9_pin_X9_takeOff : GoodIn wsX9_pin wsX9_takeOff := goodIn_r _ [34, 6, 17, 18, 19, 4, 20, 14, 15, 16, 21, 22, 23, 24, 60, 61, 62, 63, 64, 65, 66, 67, 68, 69, 70, 71, 72, 73, 74, 75, 76, 77] (by decide +kernel) (by decide +kernel)
set_option maxRecDepth 20000 in
theorem gX9_pin_X9_takeOff : GoodIn wsX9_pin (wsV RX9 128 RX9 yX9_takeOff wsX9_takeOff) := goodIn_app (goodIn_of _ (by decide +kernel)) ggX9_pin_X9_takeOff
set_option maxRecDepth 20000 in
theorem ggX9_pin_X9_putAt : GoodIn wsX9_pin wsX9_putAt := goodIn_r _ [38, 6, 14, 15, 4, 16, 60, 61, 62, 63, 64, 65, 66, 67, 68, 69, 70, 71, 72, 73, 74, 75, 76, 77] (by decide +kernel) (by decide +kernel)
set_option maxRecDepth 20000 in
theorem gX9_pin_X9_putAt : GoodIn wsX9_pin (wsV RX9 131 RX9 yX9_putAt wsX9_putAt) := goodIn_app (goodIn_of _ (by decide +kernel)) ggX9_pin_X9_putAt
set_option maxRecDepth 20000 in
theorem ggX9_pin_X9_of : GoodIn wsX9_pin wsX9_of := goodIn_r _ [42, 6, 60, 61, 62, 63, 64, 65, 66, 67, 68, 69, 70, 71, 72, 73, 74, 75, 76, 77] (by decide +kernel) (by decide +kernel)
set_option maxRecDepth 20000 in
theorem gX9_pin_X9_of : GoodIn wsX9_pin (wsV RX9 65 RX9 yX9_of wsX9_of) := goodIn_app (goodIn_of _ (by decide +kernel)) ggX9_pin_X9_of
set_option maxRecDepth 20000 in
theorem ggX9_pin_X9_breaks : GoodIn wsX9_pin wsX9_breaks := goodIn_r _ [46, 47, 48, 49, 50, 51, 4, 52, 53, 54, 55, 56, 57, 58, 59, 6, 14, 15, 16, 39, 40, 41, 42, 17, 18, 19, 20, 60, 61, 62, 63, 64, 65, 66, 67, 68, 69, 70, 71, 72, 73, 74, 75, 76, 77] (by decide +kernel) (by decide +kernel)
set_option maxRecDepth 20000 in
theorem gX9_pin_X9_breaks : GoodIn wsX9_pin (wsV RX9 76 RX9 yX9_breaks wsX9_breaks) := goodIn_app (goodIn_of _ (by decide +kernel)) ggX9_pin_X9_breaks
theorem dX9_pin_0 : decode cX9_pin 0 = .ok (.aload_n 0, 1) := by decide +kernel
theorem dX9_pin_1 : decode cX9_pin 1 = .ok (.iload_n 1, 1) := by decide +kernel
theorem dX9_pin_2 : decode cX9_pin 2 = .ok (.iload_n 2, 1) := by decide +kernel
theorem dX9_pin_3 : decode cX9_pin 3 = .ok (.iload_n 3, 1) := by decide +kernel
theorem dX9_pin_4 : decode cX9_pin 4 = .ok (.invokevirtual 125, 3) := by decide +kernel
theorem dX9_pin_7 : decode cX9_pin 7 = .ok (.istore 4, 2) := by decide +kernel
theorem dX9_pin_9 : decode cX9_pin 9 = .ok (.iload 4, 2) := by decide +kernel
theorem dX9_pin_11 : decode cX9_pin 11 = .ok (.ifCond .eq 6, 3) := by decide +kernel
theorem dX9_pin_14 : decode cX9_pin 14 = .ok (.iload 4, 2) := by decide +kernel
theorem dX9_pin_16 : decode cX9_pin 16 = .ok (.ireturn, 1) := by decide +kernel
theorem dX9_pin_17 : decode cX9_pin 17 = .ok (.aload_n 0, 1) := by decide +kernel
theorem dX9_pin_18 : decode cX9_pin 18 = .ok (.iload_n 1, 1) := by decide +kernel
theorem dX9_pin_19 : decode cX9_pin 19 = .ok (.invokevirtual 73, 3) := by decide +kernel
theorem dX9_pin_22 : decode cX9_pin 22 = .ok (.iload_n 2, 1) := by decide +kernel
theorem dX9_pin_23 : decode cX9_pin 23 = .ok (.if_icmp .ne 15, 3) := by decide +kernel
theorem dX9_pin_26 : decode cX9_pin 26 = .ok (.aload_n 0, 1) := by decide +kernel
theorem dX9_pin_27 : decode cX9_pin 27 = .ok (.iload_n 1, 1) := by decide +kernel
theorem dX9_pin_28 : decode cX9_pin 28 = .ok (.invokevirtual 122, 3) := by decide +kernel
theorem dX9_pin_31 : decode cX9_pin 31 = .ok (.iload_n 3, 1) := by decide +kernel
theorem dX9_pin_32 : decode cX9_pin 32 = .ok (.if_icmp .ne 6, 3) := by decide +kernel
theorem dX9_pin_35 : decode cX9_pin 35 = .ok (.bipush (-5), 2) := by decide +kernel
theorem dX9_pin_37 : decode cX9_pin 37 = .ok (.ireturn, 1) := by decide +kernel
theorem dX9_pin_38 : decode cX9_pin 38 = .ok (.aload_n 0, 1) := by decide +kernel
theorem dX9_pin_39 : decode cX9_pin 39 = .ok (.invokevirtual 80, 3) := by decide +kernel
theorem dX9_pin_42 : decode cX9_pin 42 = .ok (.aload_n 0, 1) := by decide +kernel
theorem dX9_pin_43 : decode cX9_pin 43 = .ok (.iload_n 1, 1) := by decide +kernel
theorem dX9_pin_44 : decode cX9_pin 44 = .ok (.invokevirtual 128, 3) := by decide +kernel
theorem dX9_pin_47 : decode cX9_pin 47 = .ok (.aload_n 0, 1) := by decide +kernel
theorem dX9_pin_48 : decode cX9_pin 48 = .ok (.iload_n 1, 1) := by decide +kernel
theorem dX9_pin_49 : decode cX9_pin 49 = .ok (.iload_n 2, 1) := by decide +kernel
theorem dX9_pin_50 : decode cX9_pin 50 = .ok (.iload_n 3, 1) := by decide +kernel
theorem dX9_pin_51 : decode cX9_pin 51 = .ok (.invokevirtual 131, 3) := by decide +kernel
theorem dX9_pin_54 : decode cX9_pin 54 = .ok (.aload_n 0, 1) := by decide +kernel
theorem dX9_pin_55 : decode cX9_pin 55 = .ok (.aload_n 0, 1) := by decide +kernel
theorem dX9_pin_56 : decode cX9_pin 56 = .ok (.iload_n 1, 1) := by decide +kernel
theorem dX9_pin_57 : decode cX9_pin 57 = .ok (.iconst 0, 1) := by decide +kernel
theorem dX9_pin_58 : decode cX9_pin 58 = .ok (.invokevirtual 65, 3) := by decide +kernel
theorem dX9_pin_61 : decode cX9_pin 61 = .ok (.bipush (-5), 2) := by decide +kernel
theorem dX9_pin_63 : decode cX9_pin 63 = .ok (.bipush (-5), 2) := by decide +kernel
theorem dX9_pin_65 : decode cX9_pin 65 = .ok (.invokevirtual 76, 3) := by decide +kernel
theorem dX9_pin_68 : decode cX9_pin 68 = .ok (.ireturn, 1) := by decide +kernel
set_option maxRecDepth 20000 in
theorem ggX9_unpin_X9_isCard : GoodIn wsX9_unpin wsX9_isCard := goodIn_r _ [5, 6, 7, 8, 4, 9, 52, 53, 54, 55, 56, 57, 58, 59, 60, 61, 62, 63, 64, 65, 66, 67, 68, 69] (by decide +kernel) (by decide +kernel)
set_option maxRecDepth 20000 in
theorem gX9_unpin_X9_isCard : GoodIn wsX9_unpin (wsV RX9 114 RX9 yX9_isCard wsX9_isCard) := goodIn_app (goodIn_of _ (by decide +kernel)) ggX9_unpin_X9_isCard
set_option maxRecDepth 20000 in
theorem ggX9_unpin_X9_sceneOf : GoodIn wsX9_unpin wsX9_sceneOf := goodIn_r _ [13, 6, 14, 15, 4, 16, 52, 53, 54, 55, 56, 57, 58, 59, 60, 61, 62, 63, 64, 65, 66, 67, 68, 69] (by decide +kernel) (by decide +kernel)
set_option maxRecDepth 20000 in
theorem gX9_unpin_X9_sceneOf : GoodIn wsX9_unpin (wsV RX9 73 RX9 yX9_sceneOf wsX9_sceneOf) := goodIn_app (goodIn_of _ (by decide +kernel)) ggX9_unpin_X9_sceneOf
set_option maxRecDepth 20000 in
theorem ggX9_unpin_X9_record : GoodIn wsX9_unpin wsX9_record := goodIn_r _ [20, 21, 22, 6, 52, 53, 54, 55, 56, 57, 58, 59, 60, 61, 62, 63, 64, 65, 66, 67, 68, 69] (by decide +kernel) (by decide +kernel)
set_option maxRecDepth 20000 in
theorem gX9_unpin_X9_record : GoodIn wsX9_unpin (wsV RX9 80 RX9 yX9_record wsX9_record) := goodIn_app (goodIn_of _ (by decide +kernel)) ggX9_unpin_X9_record
set_option maxRecDepth 20000 in
theorem ggX9_unpin_X9_takeOff : GoodIn wsX9_unpin wsX9_takeOff := goodIn_r _ [26, 6, 10, 11, 12, 4, 13, 14, 15, 16, 27, 28, 29, 30, 52, 53, 54, 55, 56, 57, 58, 59, 60, 61, 62, 63, 64, 65, 66, 67, 68, 69] (by decide +kernel) (by decide +kernel)
set_option maxRecDepth 20000 in
theorem gX9_unpin_X9_takeOff : GoodIn wsX9_unpin (wsV RX9 128 RX9 yX9_takeOff wsX9_takeOff) := goodIn_app (goodIn_of _ (by decide +kernel)) ggX9_unpin_X9_takeOff
set_option maxRecDepth 20000 in
theorem ggX9_unpin_X9_of : GoodIn wsX9_unpin wsX9_of := goodIn_r _ [34, 6, 52, 53, 54, 55, 56, 57, 58, 59, 60, 61, 62, 63, 64, 65, 66, 67, 68, 69] (by decide +kernel) (by decide +kernel)
set_option maxRecDepth 20000 in
theorem gX9_unpin_X9_of : GoodIn wsX9_unpin (wsV RX9 65 RX9 yX9_of wsX9_of) := goodIn_app (goodIn_of _ (by decide +kernel)) ggX9_unpin_X9_of
set_option maxRecDepth 20000 in
theorem ggX9_unpin_X9_breaks : GoodIn wsX9_unpin wsX9_breaks := goodIn_r _ [38, 39, 40, 41, 42, 43, 4, 44, 45, 46, 47, 48, 49, 50, 51, 6, 14, 15, 16, 31, 32, 33, 34, 10, 11, 12, 13, 52, 53, 54, 55, 56, 57, 58, 59, 60, 61, 62, 63, 64, 65, 66, 67, 68, 69] (by decide +kernel) (by decide +kernel)
set_option maxRecDepth 20000 in
theorem gX9_unpin_X9_breaks : GoodIn wsX9_unpin (wsV RX9 76 RX9 yX9_breaks wsX9_breaks) := goodIn_app (goodIn_of _ (by decide +kernel)) ggX9_unpin_X9_breaks
theorem dX9_unpin_0 : decode cX9_unpin 0 = .ok (.aload_n 0, 1) := by decide +kernel
theorem dX9_unpin_1 : decode cX9_unpin 1 = .ok (.iload_n 1, 1) := by decide +kernel
theorem dX9_unpin_2 : decode cX9_unpin 2 = .ok (.invokevirtual 114, 3) := by decide +kernel
theorem dX9_unpin_5 : decode cX9_unpin 5 = .ok (.ifCond .ne 5, 3) := by decide +kernel
theorem dX9_unpin_8 : decode cX9_unpin 8 = .ok (.iconst (-1), 1) := by decide +kernel
theorem dX9_unpin_9 : decode cX9_unpin 9 = .ok (.ireturn, 1) := by decide +kernel
theorem dX9_unpin_10 : decode cX9_unpin 10 = .ok (.aload_n 0, 1) := by decide +kernel
theorem dX9_unpin_11 : decode cX9_unpin 11 = .ok (.iload_n 1, 1) := by decide +kernel
theorem dX9_unpin_12 : decode cX9_unpin 12 = .ok (.invokevirtual 73, 3) := by decide +kernel
theorem dX9_unpin_15 : decode cX9_unpin 15 = .ok (.bipush (-5), 2) := by decide +kernel
theorem dX9_unpin_17 : decode cX9_unpin 17 = .ok (.if_icmp .ne 6, 3) := by decide +kernel
theorem dX9_unpin_20 : decode cX9_unpin 20 = .ok (.bipush (-5), 2) := by decide +kernel
theorem dX9_unpin_22 : decode cX9_unpin 22 = .ok (.ireturn, 1) := by decide +kernel
theorem dX9_unpin_23 : decode cX9_unpin 23 = .ok (.aload_n 0, 1) := by decide +kernel
theorem dX9_unpin_24 : decode cX9_unpin 24 = .ok (.invokevirtual 80, 3) := by decide +kernel
theorem dX9_unpin_27 : decode cX9_unpin 27 = .ok (.aload_n 0, 1) := by decide +kernel
theorem dX9_unpin_28 : decode cX9_unpin 28 = .ok (.iload_n 1, 1) := by decide +kernel
theorem dX9_unpin_29 : decode cX9_unpin 29 = .ok (.invokevirtual 128, 3) := by decide +kernel
theorem dX9_unpin_32 : decode cX9_unpin 32 = .ok (.aload_n 0, 1) := by decide +kernel
theorem dX9_unpin_33 : decode cX9_unpin 33 = .ok (.aload_n 0, 1) := by decide +kernel
theorem dX9_unpin_34 : decode cX9_unpin 34 = .ok (.iload_n 1, 1) := by decide +kernel
theorem dX9_unpin_35 : decode cX9_unpin 35 = .ok (.iconst 0, 1) := by decide +kernel
theorem dX9_unpin_36 : decode cX9_unpin 36 = .ok (.invokevirtual 65, 3) := by decide +kernel
theorem dX9_unpin_39 : decode cX9_unpin 39 = .ok (.bipush (-5), 2) := by decide +kernel
theorem dX9_unpin_41 : decode cX9_unpin 41 = .ok (.bipush (-5), 2) := by decide +kernel
theorem dX9_unpin_43 : decode cX9_unpin 43 = .ok (.invokevirtual 76, 3) := by decide +kernel
theorem dX9_unpin_46 : decode cX9_unpin 46 = .ok (.ireturn, 1) := by decide +kernel
set_option maxRecDepth 20000 in
theorem ggX9_swap_X9_isCard : GoodIn wsX9_swap wsX9_isCard := goodIn_r _ [6, 1, 7, 8, 5, 9, 52, 53, 54, 55, 56, 57, 58, 59, 60, 61, 62, 63, 64, 65, 66, 67, 68, 69] (by decide +kernel) (by decide +kernel)
set_option maxRecDepth 20000 in
theorem gX9_swap_X9_isCard : GoodIn wsX9_swap (wsV RX9 114 RX9 yX9_isCard wsX9_isCard) := goodIn_app (goodIn_of _ (by decide +kernel)) ggX9_swap_X9_isCard
set_option maxRecDepth 20000 in
theorem ggX9_swap_X9_sceneOf : GoodIn wsX9_swap wsX9_sceneOf := goodIn_r _ [13, 1, 14, 15, 5, 16, 52, 53, 54, 55, 56, 57, 58, 59, 60, 61, 62, 63, 64, 65, 66, 67, 68, 69] (by decide +kernel) (by decide +kernel)
set_option maxRecDepth 20000 in
theorem gX9_swap_X9_sceneOf : GoodIn wsX9_swap (wsV RX9 73 RX9 yX9_sceneOf wsX9_sceneOf) := goodIn_app (goodIn_of _ (by decide +kernel)) ggX9_swap_X9_sceneOf
set_option maxRecDepth 20000 in
theorem ggX9_swap_X9_record : GoodIn wsX9_swap wsX9_record := goodIn_r _ [20, 21, 22, 1, 52, 53, 54, 55, 56, 57, 58, 59, 60, 61, 62, 63, 64, 65, 66, 67, 68, 69] (by decide +kernel) (by decide +kernel)
set_option maxRecDepth 20000 in
theorem gX9_swap_X9_record : GoodIn wsX9_swap (wsV RX9 80 RX9 yX9_record wsX9_record) := goodIn_app (goodIn_of _ (by decide +kernel)) ggX9_swap_X9_record
set_option maxRecDepth 20000 in
theorem ggX9_swap_X9_row : GoodIn wsX9_swap wsX9_row := goodIn_r _ [16] (by decide +kernel) (by decide +kernel)
set_option maxRecDepth 20000 in
theorem gX9_swap_X9_row : GoodIn wsX9_swap (va_wsS RX9 55 yX9_row wsX9_row) := goodIn_app (goodIn_of _ (by decide +kernel)) ggX9_swap_X9_row
set_option maxRecDepth 20000 in
theorem ggX9_swap_X9_placeOf : GoodIn wsX9_swap wsX9_placeOf := goodIn_r _ [26, 1, 14, 15, 5, 16, 52, 53, 54, 55, 56, 57, 58, 59, 60, 61, 62, 63, 64, 65, 66, 67, 68, 69] (by decide +kernel) (by decide +kernel)
set_option maxRecDepth 20000 in
theorem gX9_swap_X9_placeOf : GoodIn wsX9_swap (wsV RX9 122 RX9 yX9_placeOf wsX9_placeOf) := goodIn_app (goodIn_of _ (by decide +kernel)) ggX9_swap_X9_placeOf
set_option maxRecDepth 20000 in
theorem ggX9_swap_X9_allBreaks : GoodIn wsX9_swap wsX9_allBreaks := goodIn_r _ [30, 31, 32, 33, 5, 34, 35, 36, 37, 38, 39, 40, 41, 42, 43, 44, 45, 46, 47, 1, 14, 15, 16, 48, 49, 50, 51, 10, 11, 12, 13, 52, 53, 54, 55, 56, 57, 58, 59, 60, 61, 62, 63, 64, 65, 66, 67, 68, 69] (by decide +kernel) (by decide +kernel)
set_option maxRecDepth 20000 in
theorem gX9_swap_X9_allBreaks : GoodIn wsX9_swap (wsV RX9 135 RX9 yX9_allBreaks wsX9_allBreaks) := goodIn_app (goodIn_of _ (by decide +kernel)) ggX9_swap_X9_allBreaks
theorem dX9_swap_0 : decode cX9_swap 0 = .ok (.aload_n 0, 1) := by decide +kernel
theorem dX9_swap_1 : decode cX9_swap 1 = .ok (.iload_n 1, 1) := by decide +kernel
theorem dX9_swap_2 : decode cX9_swap 2 = .ok (.invokevirtual 114, 3) := by decide +kernel
theorem dX9_swap_5 : decode cX9_swap 5 = .ok (.ifCond .eq 11, 3) := by decide +kernel
theorem dX9_swap_8 : decode cX9_swap 8 = .ok (.aload_n 0, 1) := by decide +kernel
theorem dX9_swap_9 : decode cX9_swap 9 = .ok (.iload_n 2, 1) := by decide +kernel
theorem dX9_swap_10 : decode cX9_swap 10 = .ok (.invokevirtual 114, 3) := by decide +kernel
theorem dX9_swap_13 : decode cX9_swap 13 = .ok (.ifCond .ne 5, 3) := by decide +kernel
theorem dX9_swap_16 : decode cX9_swap 16 = .ok (.iconst (-1), 1) := by decide +kernel
theorem dX9_swap_17 : decode cX9_swap 17 = .ok (.ireturn, 1) := by decide +kernel
theorem dX9_swap_18 : decode cX9_swap 18 = .ok (.iload_n 1, 1) := by decide +kernel
theorem dX9_swap_19 : decode cX9_swap 19 = .ok (.iload_n 2, 1) := by decide +kernel
theorem dX9_swap_20 : decode cX9_swap 20 = .ok (.if_icmp .ne 6, 3) := by decide +kernel
theorem dX9_swap_23 : decode cX9_swap 23 = .ok (.bipush (-2), 2) := by decide +kernel
theorem dX9_swap_25 : decode cX9_swap 25 = .ok (.ireturn, 1) := by decide +kernel
theorem dX9_swap_26 : decode cX9_swap 26 = .ok (.aload_n 0, 1) := by decide +kernel
theorem dX9_swap_27 : decode cX9_swap 27 = .ok (.iload_n 1, 1) := by decide +kernel
theorem dX9_swap_28 : decode cX9_swap 28 = .ok (.invokevirtual 73, 3) := by decide +kernel
theorem dX9_swap_31 : decode cX9_swap 31 = .ok (.bipush (-5), 2) := by decide +kernel
theorem dX9_swap_33 : decode cX9_swap 33 = .ok (.if_icmp .eq 13, 3) := by decide +kernel
theorem dX9_swap_36 : decode cX9_swap 36 = .ok (.aload_n 0, 1) := by decide +kernel
theorem dX9_swap_37 : decode cX9_swap 37 = .ok (.iload_n 2, 1) := by decide +kernel
theorem dX9_swap_38 : decode cX9_swap 38 = .ok (.invokevirtual 73, 3) := by decide +kernel
theorem dX9_swap_41 : decode cX9_swap 41 = .ok (.bipush (-5), 2) := by decide +kernel
theorem dX9_swap_43 : decode cX9_swap 43 = .ok (.if_icmp .ne 6, 3) := by decide +kernel
theorem dX9_swap_46 : decode cX9_swap 46 = .ok (.bipush (-4), 2) := by decide +kernel
theorem dX9_swap_48 : decode cX9_swap 48 = .ok (.ireturn, 1) := by decide +kernel
theorem dX9_swap_49 : decode cX9_swap 49 = .ok (.aload_n 0, 1) := by decide +kernel
theorem dX9_swap_50 : decode cX9_swap 50 = .ok (.invokevirtual 80, 3) := by decide +kernel
theorem dX9_swap_53 : decode cX9_swap 53 = .ok (.aload_n 0, 1) := by decide +kernel
theorem dX9_swap_54 : decode cX9_swap 54 = .ok (.iload_n 1, 1) := by decide +kernel
theorem dX9_swap_55 : decode cX9_swap 55 = .ok (.invokevirtual 73, 3) := by decide +kernel
theorem dX9_swap_58 : decode cX9_swap 58 = .ok (.invokestatic 55, 3) := by decide +kernel
theorem dX9_swap_61 : decode cX9_swap 61 = .ok (.iconst 1, 1) := by decide +kernel
theorem dX9_swap_62 : decode cX9_swap 62 = .ok (.iadd, 1) := by decide +kernel
theorem dX9_swap_63 : decode cX9_swap 63 = .ok (.aload_n 0, 1) := by decide +kernel
theorem dX9_swap_64 : decode cX9_swap 64 = .ok (.iload_n 1, 1) := by decide +kernel
theorem dX9_swap_65 : decode cX9_swap 65 = .ok (.invokevirtual 122, 3) := by decide +kernel
theorem dX9_swap_68 : decode cX9_swap 68 = .ok (.iadd, 1) := by decide +kernel
theorem dX9_swap_69 : decode cX9_swap 69 = .ok (.istore_n 3, 1) := by decide +kernel
theorem dX9_swap_70 : decode cX9_swap 70 = .ok (.aload_n 0, 1) := by decide +kernel
theorem dX9_swap_71 : decode cX9_swap 71 = .ok (.iload_n 2, 1) := by decide +kernel
theorem dX9_swap_72 : decode cX9_swap 72 = .ok (.invokevirtual 73, 3) := by decide +kernel
theorem dX9_swap_75 : decode cX9_swap 75 = .ok (.invokestatic 55, 3) := by decide +kernel
theorem dX9_swap_78 : decode cX9_swap 78 = .ok (.iconst 1, 1) := by decide +kernel
theorem dX9_swap_79 : decode cX9_swap 79 = .ok (.iadd, 1) := by decide +kernel
theorem dX9_swap_80 : decode cX9_swap 80 = .ok (.aload_n 0, 1) := by decide +kernel
theorem dX9_swap_81 : decode cX9_swap 81 = .ok (.iload_n 2, 1) := by decide +kernel
theorem dX9_swap_82 : decode cX9_swap 82 = .ok (.invokevirtual 122, 3) := by decide +kernel
theorem dX9_swap_85 : decode cX9_swap 85 = .ok (.iadd, 1) := by decide +kernel
theorem dX9_swap_86 : decode cX9_swap 86 = .ok (.istore 4, 2) := by decide +kernel
theorem dX9_swap_88 : decode cX9_swap 88 = .ok (.aload_n 0, 1) := by decide +kernel
theorem dX9_swap_89 : decode cX9_swap 89 = .ok (.getfield 7, 3) := by decide +kernel
theorem dX9_swap_92 : decode cX9_swap 92 = .ok (.iload_n 3, 1) := by decide +kernel
theorem dX9_swap_93 : decode cX9_swap 93 = .ok (.iload_n 2, 1) := by decide +kernel
theorem dX9_swap_94 : decode cX9_swap 94 = .ok (.iastore, 1) := by decide +kernel
theorem dX9_swap_95 : decode cX9_swap 95 = .ok (.aload_n 0, 1) := by decide +kernel
theorem dX9_swap_96 : decode cX9_swap 96 = .ok (.getfield 7, 3) := by decide +kernel
theorem dX9_swap_99 : decode cX9_swap 99 = .ok (.iload 4, 2) := by decide +kernel
theorem dX9_swap_101 : decode cX9_swap 101 = .ok (.iload_n 1, 1) := by decide +kernel
theorem dX9_swap_102 : decode cX9_swap 102 = .ok (.iastore, 1) := by decide +kernel
theorem dX9_swap_103 : decode cX9_swap 103 = .ok (.aload_n 0, 1) := by decide +kernel
theorem dX9_swap_104 : decode cX9_swap 104 = .ok (.invokevirtual 135, 3) := by decide +kernel
theorem dX9_swap_107 : decode cX9_swap 107 = .ok (.ireturn, 1) := by decide +kernel
set_option maxRecDepth 20000 in
theorem ggX9_straighten_X9_in : GoodIn wsX9_straighten wsX9_in := goodIn_r _ [8] (by decide +kernel) (by decide +kernel)
set_option maxRecDepth 20000 in
theorem gX9_straighten_X9_in : GoodIn wsX9_straighten (va_wsS RX9 48 yX9_in wsX9_in) := goodIn_app (goodIn_of _ (by decide +kernel)) ggX9_straighten_X9_in
set_option maxRecDepth 20000 in
theorem ggX9_straighten_X9_layStraight : GoodIn wsX9_straighten wsX9_layStraight := goodIn_r _ [12, 1, 13, 14, 2, 15, 16, 17, 7, 18, 19, 4, 20, 21, 22, 23, 24, 25, 26, 33, 34, 35, 36, 37, 38, 39, 40, 41, 42, 43, 44, 45, 46, 47, 48, 49, 50] (by decide +kernel) (by decide +kernel)
set_option maxRecDepth 20000 in
theorem gX9_straighten_X9_layStraight : GoodIn wsX9_straighten (wsV RX9 69 RX9 yX9_layStraight wsX9_layStraight) := goodIn_app (goodIn_of _ (by decide +kernel)) ggX9_straighten_X9_layStraight
set_option maxRecDepth 20000 in
theorem ggX9_straighten_X9_of : GoodIn wsX9_straighten wsX9_of := goodIn_r _ [26, 4, 33, 34, 35, 36, 37, 38, 39, 40, 41, 42, 43, 44, 45, 46, 47, 48, 49, 50] (by decide +kernel) (by decide +kernel)
set_option maxRecDepth 20000 in
theorem gX9_straighten_X9_of : GoodIn wsX9_straighten (wsV RX9 65 RX9 yX9_of wsX9_of) := goodIn_app (goodIn_of _ (by decide +kernel)) ggX9_straighten_X9_of
set_option maxRecDepth 20000 in
theorem ggX9_straighten_X9_record : GoodIn wsX9_straighten wsX9_record := goodIn_r _ [30, 31, 32, 4, 33, 34, 35, 36, 37, 38, 39, 40, 41, 42, 43, 44, 45, 46, 47, 48, 49, 50] (by decide +kernel) (by decide +kernel)
set_option maxRecDepth 20000 in
theorem gX9_straighten_X9_record : GoodIn wsX9_straighten (wsV RX9 80 RX9 yX9_record wsX9_record) := goodIn_app (goodIn_of _ (by decide +kernel)) ggX9_straighten_X9_record
set_option maxRecDepth 20000 in
theorem ggX9_straighten_X9_row : GoodIn wsX9_straighten wsX9_row := goodIn_r _ [22] (by decide +kernel) (by decide +kernel)
set_option maxRecDepth 20000 in
theorem gX9_straighten_X9_row : GoodIn wsX9_straighten (va_wsS RX9 55 yX9_row wsX9_row) := goodIn_app (goodIn_of _ (by decide +kernel)) ggX9_straighten_X9_row
theorem dX9_straighten_0 : decode cX9_straighten 0 = .ok (.iload_n 1, 1) := by decide +kernel
theorem dX9_straighten_1 : decode cX9_straighten 1 = .ok (.iconst 0, 1) := by decide +kernel
theorem dX9_straighten_2 : decode cX9_straighten 2 = .ok (.iconst 5, 1) := by decide +kernel
theorem dX9_straighten_3 : decode cX9_straighten 3 = .ok (.invokestatic 48, 3) := by decide +kernel
theorem dX9_straighten_6 : decode cX9_straighten 6 = .ok (.ifCond .ne 5, 3) := by decide +kernel
theorem dX9_straighten_9 : decode cX9_straighten 9 = .ok (.iconst (-1), 1) := by decide +kernel
theorem dX9_straighten_10 : decode cX9_straighten 10 = .ok (.ireturn, 1) := by decide +kernel
theorem dX9_straighten_11 : decode cX9_straighten 11 = .ok (.aload_n 0, 1) := by decide +kernel
theorem dX9_straighten_12 : decode cX9_straighten 12 = .ok (.iload_n 1, 1) := by decide +kernel
theorem dX9_straighten_13 : decode cX9_straighten 13 = .ok (.invokevirtual 69, 3) := by decide +kernel
theorem dX9_straighten_16 : decode cX9_straighten 16 = .ok (.iconst 0, 1) := by decide +kernel
theorem dX9_straighten_17 : decode cX9_straighten 17 = .ok (.istore_n 2, 1) := by decide +kernel
theorem dX9_straighten_18 : decode cX9_straighten 18 = .ok (.iconst 0, 1) := by decide +kernel
theorem dX9_straighten_19 : decode cX9_straighten 19 = .ok (.istore_n 3, 1) := by decide +kernel
theorem dX9_straighten_20 : decode cX9_straighten 20 = .ok (.iload_n 3, 1) := by decide +kernel
theorem dX9_straighten_21 : decode cX9_straighten 21 = .ok (.aload_n 0, 1) := by decide +kernel
theorem dX9_straighten_22 : decode cX9_straighten 22 = .ok (.getfield 62, 3) := by decide +kernel
theorem dX9_straighten_25 : decode cX9_straighten 25 = .ok (.if_icmp .ge 147, 3) := by decide +kernel
theorem dX9_straighten_28 : decode cX9_straighten 28 = .ok (.iconst 0, 1) := by decide +kernel
theorem dX9_straighten_29 : decode cX9_straighten 29 = .ok (.istore 4, 2) := by decide +kernel
theorem dX9_straighten_31 : decode cX9_straighten 31 = .ok (.iconst 0, 1) := by decide +kernel
theorem dX9_straighten_32 : decode cX9_straighten 32 = .ok (.istore 5, 2) := by decide +kernel
theorem dX9_straighten_34 : decode cX9_straighten 34 = .ok (.iload 5, 2) := by decide +kernel
theorem dX9_straighten_36 : decode cX9_straighten 36 = .ok (.aload_n 0, 1) := by decide +kernel
theorem dX9_straighten_37 : decode cX9_straighten 37 = .ok (.getfield 62, 3) := by decide +kernel
theorem dX9_straighten_40 : decode cX9_straighten 40 = .ok (.if_icmp .ge 99, 3) := by decide +kernel
theorem dX9_straighten_43 : decode cX9_straighten 43 = .ok (.aload_n 0, 1) := by decide +kernel
theorem dX9_straighten_44 : decode cX9_straighten 44 = .ok (.aload_n 0, 1) := by decide +kernel
theorem dX9_straighten_45 : decode cX9_straighten 45 = .ok (.getfield 28, 3) := by decide +kernel
theorem dX9_straighten_48 : decode cX9_straighten 48 = .ok (.iload 5, 2) := by decide +kernel
theorem dX9_straighten_50 : decode cX9_straighten 50 = .ok (.iaload, 1) := by decide +kernel
theorem dX9_straighten_51 : decode cX9_straighten 51 = .ok (.iconst 1, 1) := by decide +kernel
theorem dX9_straighten_52 : decode cX9_straighten 52 = .ok (.invokevirtual 65, 3) := by decide +kernel
theorem dX9_straighten_55 : decode cX9_straighten 55 = .ok (.aload_n 0, 1) := by decide +kernel
theorem dX9_straighten_56 : decode cX9_straighten 56 = .ok (.aload_n 0, 1) := by decide +kernel
theorem dX9_straighten_57 : decode cX9_straighten 57 = .ok (.getfield 28, 3) := by decide +kernel
theorem dX9_straighten_60 : decode cX9_straighten 60 = .ok (.iload_n 3, 1) := by decide +kernel
theorem dX9_straighten_61 : decode cX9_straighten 61 = .ok (.iaload, 1) := by decide +kernel
theorem dX9_straighten_62 : decode cX9_straighten 62 = .ok (.iconst 1, 1) := by decide +kernel
theorem dX9_straighten_63 : decode cX9_straighten 63 = .ok (.invokevirtual 65, 3) := by decide +kernel
theorem dX9_straighten_66 : decode cX9_straighten 66 = .ok (.if_icmp .lt 45, 3) := by decide +kernel
theorem dX9_straighten_69 : decode cX9_straighten 69 = .ok (.aload_n 0, 1) := by decide +kernel
theorem dX9_straighten_70 : decode cX9_straighten 70 = .ok (.aload_n 0, 1) := by decide +kernel
theorem dX9_straighten_71 : decode cX9_straighten 71 = .ok (.getfield 28, 3) := by decide +kernel
theorem dX9_straighten_74 : decode cX9_straighten 74 = .ok (.iload 5, 2) := by decide +kernel
theorem dX9_straighten_76 : decode cX9_straighten 76 = .ok (.iaload, 1) := by decide +kernel
theorem dX9_straighten_77 : decode cX9_straighten 77 = .ok (.iconst 1, 1) := by decide +kernel
theorem dX9_straighten_78 : decode cX9_straighten 78 = .ok (.invokevirtual 65, 3) := by decide +kernel
theorem dX9_straighten_81 : decode cX9_straighten 81 = .ok (.aload_n 0, 1) := by decide +kernel
theorem dX9_straighten_82 : decode cX9_straighten 82 = .ok (.aload_n 0, 1) := by decide +kernel
theorem dX9_straighten_83 : decode cX9_straighten 83 = .ok (.getfield 28, 3) := by decide +kernel
theorem dX9_straighten_86 : decode cX9_straighten 86 = .ok (.iload_n 3, 1) := by decide +kernel
theorem dX9_straighten_87 : decode cX9_straighten 87 = .ok (.iaload, 1) := by decide +kernel
theorem dX9_straighten_88 : decode cX9_straighten 88 = .ok (.iconst 1, 1) := by decide +kernel
theorem dX9_straighten_89 : decode cX9_straighten 89 = .ok (.invokevirtual 65, 3) := by decide +kernel
theorem dX9_straighten_92 : decode cX9_straighten 92 = .ok (.if_icmp .ne 23, 3) := by decide +kernel
theorem dX9_straighten_95 : decode cX9_straighten 95 = .ok (.aload_n 0, 1) := by decide +kernel
theorem dX9_straighten_96 : decode cX9_straighten 96 = .ok (.getfield 28, 3) := by decide +kernel
theorem dX9_straighten_99 : decode cX9_straighten 99 = .ok (.iload 5, 2) := by decide +kernel
theorem dX9_straighten_101 : decode cX9_straighten 101 = .ok (.iaload, 1) := by decide +kernel
theorem dX9_straighten_102 : decode cX9_straighten 102 = .ok (.aload_n 0, 1) := by decide +kernel
theorem dX9_straighten_103 : decode cX9_straighten 103 = .ok (.getfield 28, 3) := by decide +kernel
theorem dX9_straighten_106 : decode cX9_straighten 106 = .ok (.iload_n 3, 1) := by decide +kernel
theorem dX9_straighten_107 : decode cX9_straighten 107 = .ok (.iaload, 1) := by decide +kernel
theorem dX9_straighten_108 : decode cX9_straighten 108 = .ok (.if_icmp .ge 7, 3) := by decide +kernel
theorem dX9_straighten_111 : decode cX9_straighten 111 = .ok (.iconst 1, 1) := by decide +kernel
theorem dX9_straighten_112 : decode cX9_straighten 112 = .ok (.goto 4, 3) := by decide +kernel
theorem dX9_straighten_115 : decode cX9_straighten 115 = .ok (.iconst 0, 1) := by decide +kernel
theorem dX9_straighten_116 : decode cX9_straighten 116 = .ok (.istore 6, 2) := by decide +kernel
theorem dX9_straighten_118 : decode cX9_straighten 118 = .ok (.iload 4, 2) := by decide +kernel
theorem dX9_straighten_120 : decode cX9_straighten 120 = .ok (.iload 6, 2) := by decide +kernel
theorem dX9_straighten_122 : decode cX9_straighten 122 = .ok (.ifCond .eq 7, 3) := by decide +kernel
theorem dX9_straighten_125 : decode cX9_straighten 125 = .ok (.iconst 1, 1) := by decide +kernel
theorem dX9_straighten_126 : decode cX9_straighten 126 = .ok (.goto 4, 3) := by decide +kernel
theorem dX9_straighten_129 : decode cX9_straighten 129 = .ok (.iconst 0, 1) := by decide +kernel
theorem dX9_straighten_130 : decode cX9_straighten 130 = .ok (.iadd, 1) := by decide +kernel
theorem dX9_straighten_131 : decode cX9_straighten 131 = .ok (.istore 4, 2) := by decide +kernel
theorem dX9_straighten_133 : decode cX9_straighten 133 = .ok (.iinc 5 1, 3) := by decide +kernel
theorem dX9_straighten_136 : decode cX9_straighten 136 = .ok (.goto (-102), 3) := by decide +kernel
theorem dX9_straighten_139 : decode cX9_straighten 139 = .ok (.aload_n 0, 1) := by decide +kernel
theorem dX9_straighten_140 : decode cX9_straighten 140 = .ok (.getfield 31, 3) := by decide +kernel
theorem dX9_straighten_143 : decode cX9_straighten 143 = .ok (.iload 4, 2) := by decide +kernel
theorem dX9_straighten_145 : decode cX9_straighten 145 = .ok (.aload_n 0, 1) := by decide +kernel
theorem dX9_straighten_146 : decode cX9_straighten 146 = .ok (.getfield 28, 3) := by decide +kernel
theorem dX9_straighten_149 : decode cX9_straighten 149 = .ok (.iload_n 3, 1) := by decide +kernel
theorem dX9_straighten_150 : decode cX9_straighten 150 = .ok (.iaload, 1) := by decide +kernel
theorem dX9_straighten_151 : decode cX9_straighten 151 = .ok (.iastore, 1) := by decide +kernel
theorem dX9_straighten_152 : decode cX9_straighten 152 = .ok (.iload_n 2, 1) := by decide +kernel
theorem dX9_straighten_153 : decode cX9_straighten 153 = .ok (.iload 4, 2) := by decide +kernel
theorem dX9_straighten_155 : decode cX9_straighten 155 = .ok (.iload_n 3, 1) := by decide +kernel
theorem dX9_straighten_156 : decode cX9_straighten 156 = .ok (.if_icmp .ne 7, 3) := by decide +kernel
theorem dX9_straighten_159 : decode cX9_straighten 159 = .ok (.iconst 0, 1) := by decide +kernel
theorem dX9_straighten_160 : decode cX9_straighten 160 = .ok (.goto 4, 3) := by decide +kernel
theorem dX9_straighten_163 : decode cX9_straighten 163 = .ok (.iconst 1, 1) := by decide +kernel
theorem dX9_straighten_164 : decode cX9_straighten 164 = .ok (.iadd, 1) := by decide +kernel
theorem dX9_straighten_165 : decode cX9_straighten 165 = .ok (.istore_n 2, 1) := by decide +kernel
theorem dX9_straighten_166 : decode cX9_straighten 166 = .ok (.iinc 3 1, 3) := by decide +kernel
theorem dX9_straighten_169 : decode cX9_straighten 169 = .ok (.goto (-149), 3) := by decide +kernel
theorem dX9_straighten_172 : decode cX9_straighten 172 = .ok (.iload_n 2, 1) := by decide +kernel
theorem dX9_straighten_173 : decode cX9_straighten 173 = .ok (.ifCond .ne 6, 3) := by decide +kernel
theorem dX9_straighten_176 : decode cX9_straighten 176 = .ok (.bipush (-5), 2) := by decide +kernel
theorem dX9_straighten_178 : decode cX9_straighten 178 = .ok (.ireturn, 1) := by decide +kernel
theorem dX9_straighten_179 : decode cX9_straighten 179 = .ok (.aload_n 0, 1) := by decide +kernel
theorem dX9_straighten_180 : decode cX9_straighten 180 = .ok (.invokevirtual 80, 3) := by decide +kernel
theorem dX9_straighten_183 : decode cX9_straighten 183 = .ok (.iconst 0, 1) := by decide +kernel
theorem dX9_straighten_184 : decode cX9_straighten 184 = .ok (.istore_n 3, 1) := by decide +kernel
theorem dX9_straighten_185 : decode cX9_straighten 185 = .ok (.iconst 0, 1) := by decide +kernel
theorem dX9_straighten_186 : decode cX9_straighten 186 = .ok (.istore 4, 2) := by decide +kernel
theorem dX9_straighten_188 : decode cX9_straighten 188 = .ok (.iload 4, 2) := by decide +kernel
theorem dX9_straighten_190 : decode cX9_straighten 190 = .ok (.bipush 16, 2) := by decide +kernel
theorem dX9_straighten_192 : decode cX9_straighten 192 = .ok (.if_icmp .ge 89, 3) := by decide +kernel
theorem dX9_straighten_195 : decode cX9_straighten 195 = .ok (.iconst 0, 1) := by decide +kernel
theorem dX9_straighten_196 : decode cX9_straighten 196 = .ok (.istore 5, 2) := by decide +kernel
theorem dX9_straighten_198 : decode cX9_straighten 198 = .ok (.iload 5, 2) := by decide +kernel
theorem dX9_straighten_200 : decode cX9_straighten 200 = .ok (.aload_n 0, 1) := by decide +kernel
theorem dX9_straighten_201 : decode cX9_straighten 201 = .ok (.getfield 7, 3) := by decide +kernel
theorem dX9_straighten_204 : decode cX9_straighten 204 = .ok (.iload 4, 2) := by decide +kernel
theorem dX9_straighten_206 : decode cX9_straighten 206 = .ok (.invokestatic 55, 3) := by decide +kernel
theorem dX9_straighten_209 : decode cX9_straighten 209 = .ok (.iaload, 1) := by decide +kernel
theorem dX9_straighten_210 : decode cX9_straighten 210 = .ok (.if_icmp .ge 65, 3) := by decide +kernel
theorem dX9_straighten_213 : decode cX9_straighten 213 = .ok (.iload_n 3, 1) := by decide +kernel
theorem dX9_straighten_214 : decode cX9_straighten 214 = .ok (.aload_n 0, 1) := by decide +kernel
theorem dX9_straighten_215 : decode cX9_straighten 215 = .ok (.getfield 62, 3) := by decide +kernel
theorem dX9_straighten_218 : decode cX9_straighten 218 = .ok (.if_icmp .ge 51, 3) := by decide +kernel
theorem dX9_straighten_221 : decode cX9_straighten 221 = .ok (.aload_n 0, 1) := by decide +kernel
theorem dX9_straighten_222 : decode cX9_straighten 222 = .ok (.getfield 7, 3) := by decide +kernel
theorem dX9_straighten_225 : decode cX9_straighten 225 = .ok (.iload 4, 2) := by decide +kernel
theorem dX9_straighten_227 : decode cX9_straighten 227 = .ok (.invokestatic 55, 3) := by decide +kernel
theorem dX9_straighten_230 : decode cX9_straighten 230 = .ok (.iconst 1, 1) := by decide +kernel
theorem dX9_straighten_231 : decode cX9_straighten 231 = .ok (.iadd, 1) := by decide +kernel
theorem dX9_straighten_232 : decode cX9_straighten 232 = .ok (.iload 5, 2) := by decide +kernel
theorem dX9_straighten_234 : decode cX9_straighten 234 = .ok (.iadd, 1) := by decide +kernel
theorem dX9_straighten_235 : decode cX9_straighten 235 = .ok (.iaload, 1) := by decide +kernel
theorem dX9_straighten_236 : decode cX9_straighten 236 = .ok (.aload_n 0, 1) := by decide +kernel
theorem dX9_straighten_237 : decode cX9_straighten 237 = .ok (.getfield 28, 3) := by decide +kernel
theorem dX9_straighten_240 : decode cX9_straighten 240 = .ok (.iload_n 3, 1) := by decide +kernel
theorem dX9_straighten_241 : decode cX9_straighten 241 = .ok (.iaload, 1) := by decide +kernel
theorem dX9_straighten_242 : decode cX9_straighten 242 = .ok (.if_icmp .ne 27, 3) := by decide +kernel
theorem dX9_straighten_245 : decode cX9_straighten 245 = .ok (.aload_n 0, 1) := by decide +kernel
theorem dX9_straighten_246 : decode cX9_straighten 246 = .ok (.getfield 7, 3) := by decide +kernel
theorem dX9_straighten_249 : decode cX9_straighten 249 = .ok (.iload 4, 2) := by decide +kernel
theorem dX9_straighten_251 : decode cX9_straighten 251 = .ok (.invokestatic 55, 3) := by decide +kernel
theorem dX9_straighten_254 : decode cX9_straighten 254 = .ok (.iconst 1, 1) := by decide +kernel
theorem dX9_straighten_255 : decode cX9_straighten 255 = .ok (.iadd, 1) := by decide +kernel
theorem dX9_straighten_256 : decode cX9_straighten 256 = .ok (.iload 5, 2) := by decide +kernel
theorem dX9_straighten_258 : decode cX9_straighten 258 = .ok (.iadd, 1) := by decide +kernel
theorem dX9_straighten_259 : decode cX9_straighten 259 = .ok (.aload_n 0, 1) := by decide +kernel
theorem dX9_straighten_260 : decode cX9_straighten 260 = .ok (.getfield 31, 3) := by decide +kernel
theorem dX9_straighten_263 : decode cX9_straighten 263 = .ok (.iload_n 3, 1) := by decide +kernel
theorem dX9_straighten_264 : decode cX9_straighten 264 = .ok (.iaload, 1) := by decide +kernel
theorem dX9_straighten_265 : decode cX9_straighten 265 = .ok (.iastore, 1) := by decide +kernel
theorem dX9_straighten_266 : decode cX9_straighten 266 = .ok (.iinc 3 1, 3) := by decide +kernel
theorem dX9_straighten_269 : decode cX9_straighten 269 = .ok (.iinc 5 1, 3) := by decide +kernel
theorem dX9_straighten_272 : decode cX9_straighten 272 = .ok (.goto (-74), 3) := by decide +kernel
theorem dX9_straighten_275 : decode cX9_straighten 275 = .ok (.iinc 4 1, 3) := by decide +kernel
theorem dX9_straighten_278 : decode cX9_straighten 278 = .ok (.goto (-90), 3) := by decide +kernel
theorem dX9_straighten_281 : decode cX9_straighten 281 = .ok (.iload_n 2, 1) := by decide +kernel
theorem dX9_straighten_282 : decode cX9_straighten 282 = .ok (.ireturn, 1) := by decide +kernel
set_option maxRecDepth 20000 in
theorem ggX9_scenes_X9_row : GoodIn wsX9_scenes wsX9_row := goodIn_r _ [5] (by decide +kernel) (by decide +kernel)
set_option maxRecDepth 20000 in
theorem gX9_scenes_X9_row : GoodIn wsX9_scenes (va_wsS RX9 55 yX9_row wsX9_row) := goodIn_app (goodIn_of _ (by decide +kernel)) ggX9_scenes_X9_row
theorem dX9_scenes_0 : decode cX9_scenes 0 = .ok (.iconst 0, 1) := by decide +kernel
theorem dX9_scenes_1 : decode cX9_scenes 1 = .ok (.istore_n 1, 1) := by decide +kernel
theorem dX9_scenes_2 : decode cX9_scenes 2 = .ok (.iconst 0, 1) := by decide +kernel
theorem dX9_scenes_3 : decode cX9_scenes 3 = .ok (.istore_n 2, 1) := by decide +kernel
theorem dX9_scenes_4 : decode cX9_scenes 4 = .ok (.iload_n 2, 1) := by decide +kernel
theorem dX9_scenes_5 : decode cX9_scenes 5 = .ok (.bipush 16, 2) := by decide +kernel
theorem dX9_scenes_7 : decode cX9_scenes 7 = .ok (.if_icmp .ge 29, 3) := by decide +kernel
theorem dX9_scenes_10 : decode cX9_scenes 10 = .ok (.iload_n 1, 1) := by decide +kernel
theorem dX9_scenes_11 : decode cX9_scenes 11 = .ok (.aload_n 0, 1) := by decide +kernel
theorem dX9_scenes_12 : decode cX9_scenes 12 = .ok (.getfield 7, 3) := by decide +kernel
theorem dX9_scenes_15 : decode cX9_scenes 15 = .ok (.iload_n 2, 1) := by decide +kernel
theorem dX9_scenes_16 : decode cX9_scenes 16 = .ok (.invokestatic 55, 3) := by decide +kernel
theorem dX9_scenes_19 : decode cX9_scenes 19 = .ok (.iaload, 1) := by decide +kernel
theorem dX9_scenes_20 : decode cX9_scenes 20 = .ok (.ifCond .le 7, 3) := by decide +kernel
theorem dX9_scenes_23 : decode cX9_scenes 23 = .ok (.iconst 1, 1) := by decide +kernel
theorem dX9_scenes_24 : decode cX9_scenes 24 = .ok (.goto 4, 3) := by decide +kernel
theorem dX9_scenes_27 : decode cX9_scenes 27 = .ok (.iconst 0, 1) := by decide +kernel
theorem dX9_scenes_28 : decode cX9_scenes 28 = .ok (.iadd, 1) := by decide +kernel
theorem dX9_scenes_29 : decode cX9_scenes 29 = .ok (.istore_n 1, 1) := by decide +kernel
theorem dX9_scenes_30 : decode cX9_scenes 30 = .ok (.iinc 2 1, 3) := by decide +kernel
theorem dX9_scenes_33 : decode cX9_scenes 33 = .ok (.goto (-29), 3) := by decide +kernel
theorem dX9_scenes_36 : decode cX9_scenes 36 = .ok (.iload_n 1, 1) := by decide +kernel
theorem dX9_scenes_37 : decode cX9_scenes 37 = .ok (.ireturn, 1) := by decide +kernel
set_option maxRecDepth 20000 in
theorem ggX9_copyRow_X9_row : GoodIn wsX9_copyRow wsX9_row := goodIn_r _ [5] (by decide +kernel) (by decide +kernel)
set_option maxRecDepth 20000 in
theorem gX9_copyRow_X9_row : GoodIn wsX9_copyRow (va_wsS RX9 55 yX9_row wsX9_row) := goodIn_app (goodIn_of _ (by decide +kernel)) ggX9_copyRow_X9_row
theorem dX9_copyRow_0 : decode cX9_copyRow 0 = .ok (.iconst 0, 1) := by decide +kernel
theorem dX9_copyRow_1 : decode cX9_copyRow 1 = .ok (.istore_n 3, 1) := by decide +kernel
theorem dX9_copyRow_2 : decode cX9_copyRow 2 = .ok (.iload_n 3, 1) := by decide +kernel
theorem dX9_copyRow_3 : decode cX9_copyRow 3 = .ok (.bipush 7, 2) := by decide +kernel
theorem dX9_copyRow_5 : decode cX9_copyRow 5 = .ok (.if_icmp .ge 31, 3) := by decide +kernel
theorem dX9_copyRow_8 : decode cX9_copyRow 8 = .ok (.aload_n 0, 1) := by decide +kernel
theorem dX9_copyRow_9 : decode cX9_copyRow 9 = .ok (.getfield 7, 3) := by decide +kernel
theorem dX9_copyRow_12 : decode cX9_copyRow 12 = .ok (.iload_n 2, 1) := by decide +kernel
theorem dX9_copyRow_13 : decode cX9_copyRow 13 = .ok (.invokestatic 55, 3) := by decide +kernel
theorem dX9_copyRow_16 : decode cX9_copyRow 16 = .ok (.iload_n 3, 1) := by decide +kernel
theorem dX9_copyRow_17 : decode cX9_copyRow 17 = .ok (.iadd, 1) := by decide +kernel
theorem dX9_copyRow_18 : decode cX9_copyRow 18 = .ok (.aload_n 0, 1) := by decide +kernel
theorem dX9_copyRow_19 : decode cX9_copyRow 19 = .ok (.getfield 7, 3) := by decide +kernel
theorem dX9_copyRow_22 : decode cX9_copyRow 22 = .ok (.iload_n 1, 1) := by decide +kernel
theorem dX9_copyRow_23 : decode cX9_copyRow 23 = .ok (.invokestatic 55, 3) := by decide +kernel
theorem dX9_copyRow_26 : decode cX9_copyRow 26 = .ok (.iload_n 3, 1) := by decide +kernel
theorem dX9_copyRow_27 : decode cX9_copyRow 27 = .ok (.iadd, 1) := by decide +kernel
theorem dX9_copyRow_28 : decode cX9_copyRow 28 = .ok (.iaload, 1) := by decide +kernel
theorem dX9_copyRow_29 : decode cX9_copyRow 29 = .ok (.iastore, 1) := by decide +kernel
theorem dX9_copyRow_30 : decode cX9_copyRow 30 = .ok (.iinc 3 1, 3) := by decide +kernel
theorem dX9_copyRow_33 : decode cX9_copyRow 33 = .ok (.goto (-31), 3) := by decide +kernel
theorem dX9_copyRow_36 : decode cX9_copyRow 36 = .ok (.return_, 1) := by decide +kernel
set_option maxRecDepth 20000 in
theorem ggX9_insertScene_X9_in : GoodIn wsX9_insertScene wsX9_in := goodIn_r _ [5] (by decide +kernel) (by decide +kernel)
set_option maxRecDepth 20000 in
theorem gX9_insertScene_X9_in : GoodIn wsX9_insertScene (va_wsS RX9 48 yX9_in wsX9_in) := goodIn_app (goodIn_of _ (by decide +kernel)) ggX9_insertScene_X9_in
set_option maxRecDepth 20000 in
theorem ggX9_insertScene_X9_row : GoodIn wsX9_insertScene wsX9_row := goodIn_r _ [8] (by decide +kernel) (by decide +kernel)
set_option maxRecDepth 20000 in
theorem gX9_insertScene_X9_row : GoodIn wsX9_insertScene (va_wsS RX9 55 yX9_row wsX9_row) := goodIn_app (goodIn_of _ (by decide +kernel)) ggX9_insertScene_X9_row
set_option maxRecDepth 20000 in
theorem ggX9_insertScene_X9_record : GoodIn wsX9_insertScene wsX9_record := goodIn_r _ [12, 13, 14, 1, 23, 24, 25, 26, 27, 28, 29, 30, 31, 32, 33, 34, 35, 36, 37, 38, 39, 40] (by decide +kernel) (by decide +kernel)
set_option maxRecDepth 20000 in
theorem gX9_insertScene_X9_record : GoodIn wsX9_insertScene (wsV RX9 80 RX9 yX9_record wsX9_record) := goodIn_app (goodIn_of _ (by decide +kernel)) ggX9_insertScene_X9_record
set_option maxRecDepth 20000 in
theorem ggX9_insertScene_X9_copyRow : GoodIn wsX9_insertScene wsX9_copyRow := goodIn_r _ [18, 1, 6, 7, 4, 8, 23, 24, 25, 26, 27, 28, 29, 30, 31, 32, 33, 34, 35, 36, 37, 38, 39, 40] (by decide +kernel) (by decide +kernel)
set_option maxRecDepth 20000 in
theorem gX9_insertScene_X9_copyRow : GoodIn wsX9_insertScene (wsV RX9 138 RX9 yX9_copyRow wsX9_copyRow) := goodIn_app (goodIn_of _ (by decide +kernel)) ggX9_insertScene_X9_copyRow
set_option maxRecDepth 20000 in
theorem ggX9_insertScene_X9_scenes : GoodIn wsX9_insertScene wsX9_scenes := goodIn_r _ [22, 1, 6, 7, 4, 8, 23, 24, 25, 26, 27, 28, 29, 30, 31, 32, 33, 34, 35, 36, 37, 38, 39, 40] (by decide +kernel) (by decide +kernel)
set_option maxRecDepth 20000 in
theorem gX9_insertScene_X9_scenes : GoodIn wsX9_insertScene (wsV RX9 142 RX9 yX9_scenes wsX9_scenes) := goodIn_app (goodIn_of _ (by decide +kernel)) ggX9_insertScene_X9_scenes
theorem dX9_insertScene_0 : decode cX9_insertScene 0 = .ok (.iload_n 1, 1) := by decide +kernel
theorem dX9_insertScene_1 : decode cX9_insertScene 1 = .ok (.iconst 0, 1) := by decide +kernel
theorem dX9_insertScene_2 : decode cX9_insertScene 2 = .ok (.bipush 15, 2) := by decide +kernel
theorem dX9_insertScene_4 : decode cX9_insertScene 4 = .ok (.invokestatic 48, 3) := by decide +kernel
theorem dX9_insertScene_7 : decode cX9_insertScene 7 = .ok (.ifCond .ne 5, 3) := by decide +kernel
theorem dX9_insertScene_10 : decode cX9_insertScene 10 = .ok (.iconst (-1), 1) := by decide +kernel
theorem dX9_insertScene_11 : decode cX9_insertScene 11 = .ok (.ireturn, 1) := by decide +kernel
theorem dX9_insertScene_12 : decode cX9_insertScene 12 = .ok (.aload_n 0, 1) := by decide +kernel
theorem dX9_insertScene_13 : decode cX9_insertScene 13 = .ok (.getfield 7, 3) := by decide +kernel
theorem dX9_insertScene_16 : decode cX9_insertScene 16 = .ok (.bipush 15, 2) := by decide +kernel
theorem dX9_insertScene_18 : decode cX9_insertScene 18 = .ok (.invokestatic 55, 3) := by decide +kernel
theorem dX9_insertScene_21 : decode cX9_insertScene 21 = .ok (.iaload, 1) := by decide +kernel
theorem dX9_insertScene_22 : decode cX9_insertScene 22 = .ok (.ifCond .le 6, 3) := by decide +kernel
theorem dX9_insertScene_25 : decode cX9_insertScene 25 = .ok (.bipush (-3), 2) := by decide +kernel
theorem dX9_insertScene_27 : decode cX9_insertScene 27 = .ok (.ireturn, 1) := by decide +kernel
theorem dX9_insertScene_28 : decode cX9_insertScene 28 = .ok (.aload_n 0, 1) := by decide +kernel
theorem dX9_insertScene_29 : decode cX9_insertScene 29 = .ok (.invokevirtual 80, 3) := by decide +kernel
theorem dX9_insertScene_32 : decode cX9_insertScene 32 = .ok (.bipush 15, 2) := by decide +kernel
theorem dX9_insertScene_34 : decode cX9_insertScene 34 = .ok (.istore_n 2, 1) := by decide +kernel
theorem dX9_insertScene_35 : decode cX9_insertScene 35 = .ok (.iload_n 2, 1) := by decide +kernel
theorem dX9_insertScene_36 : decode cX9_insertScene 36 = .ok (.iload_n 1, 1) := by decide +kernel
theorem dX9_insertScene_37 : decode cX9_insertScene 37 = .ok (.if_icmp .le 17, 3) := by decide +kernel
theorem dX9_insertScene_40 : decode cX9_insertScene 40 = .ok (.aload_n 0, 1) := by decide +kernel
theorem dX9_insertScene_41 : decode cX9_insertScene 41 = .ok (.iload_n 2, 1) := by decide +kernel
theorem dX9_insertScene_42 : decode cX9_insertScene 42 = .ok (.iconst 1, 1) := by decide +kernel
theorem dX9_insertScene_43 : decode cX9_insertScene 43 = .ok (.isub, 1) := by decide +kernel
theorem dX9_insertScene_44 : decode cX9_insertScene 44 = .ok (.iload_n 2, 1) := by decide +kernel
theorem dX9_insertScene_45 : decode cX9_insertScene 45 = .ok (.invokevirtual 138, 3) := by decide +kernel
theorem dX9_insertScene_48 : decode cX9_insertScene 48 = .ok (.iinc 2 (-1), 3) := by decide +kernel
theorem dX9_insertScene_51 : decode cX9_insertScene 51 = .ok (.goto (-16), 3) := by decide +kernel
theorem dX9_insertScene_54 : decode cX9_insertScene 54 = .ok (.aload_n 0, 1) := by decide +kernel
theorem dX9_insertScene_55 : decode cX9_insertScene 55 = .ok (.getfield 7, 3) := by decide +kernel
theorem dX9_insertScene_58 : decode cX9_insertScene 58 = .ok (.iload_n 1, 1) := by decide +kernel
theorem dX9_insertScene_59 : decode cX9_insertScene 59 = .ok (.invokestatic 55, 3) := by decide +kernel
theorem dX9_insertScene_62 : decode cX9_insertScene 62 = .ok (.iconst 0, 1) := by decide +kernel
theorem dX9_insertScene_63 : decode cX9_insertScene 63 = .ok (.iastore, 1) := by decide +kernel
theorem dX9_insertScene_64 : decode cX9_insertScene 64 = .ok (.aload_n 0, 1) := by decide +kernel
theorem dX9_insertScene_65 : decode cX9_insertScene 65 = .ok (.invokevirtual 142, 3) := by decide +kernel
theorem dX9_insertScene_68 : decode cX9_insertScene 68 = .ok (.ireturn, 1) := by decide +kernel
set_option maxRecDepth 20000 in
theorem ggX9_removeScene_X9_in : GoodIn wsX9_removeScene wsX9_in := goodIn_r _ [5] (by decide +kernel) (by decide +kernel)
set_option maxRecDepth 20000 in
theorem gX9_removeScene_X9_in : GoodIn wsX9_removeScene (va_wsS RX9 48 yX9_in wsX9_in) := goodIn_app (goodIn_of _ (by decide +kernel)) ggX9_removeScene_X9_in
set_option maxRecDepth 20000 in
theorem ggX9_removeScene_X9_row : GoodIn wsX9_removeScene wsX9_row := goodIn_r _ [8] (by decide +kernel) (by decide +kernel)
set_option maxRecDepth 20000 in
theorem gX9_removeScene_X9_row : GoodIn wsX9_removeScene (va_wsS RX9 55 yX9_row wsX9_row) := goodIn_app (goodIn_of _ (by decide +kernel)) ggX9_removeScene_X9_row
set_option maxRecDepth 20000 in
theorem ggX9_removeScene_X9_record : GoodIn wsX9_removeScene wsX9_record := goodIn_r _ [12, 13, 14, 1, 23, 24, 25, 26, 27, 28, 29, 30, 31, 32, 33, 34, 35, 36, 37, 38, 39, 40] (by decide +kernel) (by decide +kernel)
set_option maxRecDepth 20000 in
theorem gX9_removeScene_X9_record : GoodIn wsX9_removeScene (wsV RX9 80 RX9 yX9_record wsX9_record) := goodIn_app (goodIn_of _ (by decide +kernel)) ggX9_removeScene_X9_record
set_option maxRecDepth 20000 in
theorem ggX9_removeScene_X9_copyRow : GoodIn wsX9_removeScene wsX9_copyRow := goodIn_r _ [18, 1, 6, 7, 4, 8, 23, 24, 25, 26, 27, 28, 29, 30, 31, 32, 33, 34, 35, 36, 37, 38, 39, 40] (by decide +kernel) (by decide +kernel)
set_option maxRecDepth 20000 in
theorem gX9_removeScene_X9_copyRow : GoodIn wsX9_removeScene (wsV RX9 138 RX9 yX9_copyRow wsX9_copyRow) := goodIn_app (goodIn_of _ (by decide +kernel)) ggX9_removeScene_X9_copyRow
set_option maxRecDepth 20000 in
theorem ggX9_removeScene_X9_scenes : GoodIn wsX9_removeScene wsX9_scenes := goodIn_r _ [22, 1, 6, 7, 4, 8, 23, 24, 25, 26, 27, 28, 29, 30, 31, 32, 33, 34, 35, 36, 37, 38, 39, 40] (by decide +kernel) (by decide +kernel)
set_option maxRecDepth 20000 in
theorem gX9_removeScene_X9_scenes : GoodIn wsX9_removeScene (wsV RX9 142 RX9 yX9_scenes wsX9_scenes) := goodIn_app (goodIn_of _ (by decide +kernel)) ggX9_removeScene_X9_scenes
theorem dX9_removeScene_0 : decode cX9_removeScene 0 = .ok (.iload_n 1, 1) := by decide +kernel
theorem dX9_removeScene_1 : decode cX9_removeScene 1 = .ok (.iconst 0, 1) := by decide +kernel
theorem dX9_removeScene_2 : decode cX9_removeScene 2 = .ok (.bipush 15, 2) := by decide +kernel
theorem dX9_removeScene_4 : decode cX9_removeScene 4 = .ok (.invokestatic 48, 3) := by decide +kernel
theorem dX9_removeScene_7 : decode cX9_removeScene 7 = .ok (.ifCond .ne 5, 3) := by decide +kernel
theorem dX9_removeScene_10 : decode cX9_removeScene 10 = .ok (.iconst (-1), 1) := by decide +kernel
theorem dX9_removeScene_11 : decode cX9_removeScene 11 = .ok (.ireturn, 1) := by decide +kernel
theorem dX9_removeScene_12 : decode cX9_removeScene 12 = .ok (.aload_n 0, 1) := by decide +kernel
theorem dX9_removeScene_13 : decode cX9_removeScene 13 = .ok (.getfield 7, 3) := by decide +kernel
theorem dX9_removeScene_16 : decode cX9_removeScene 16 = .ok (.iload_n 1, 1) := by decide +kernel
theorem dX9_removeScene_17 : decode cX9_removeScene 17 = .ok (.invokestatic 55, 3) := by decide +kernel
theorem dX9_removeScene_20 : decode cX9_removeScene 20 = .ok (.iaload, 1) := by decide +kernel
theorem dX9_removeScene_21 : decode cX9_removeScene 21 = .ok (.ifCond .le 6, 3) := by decide +kernel
theorem dX9_removeScene_24 : decode cX9_removeScene 24 = .ok (.bipush (-4), 2) := by decide +kernel
theorem dX9_removeScene_26 : decode cX9_removeScene 26 = .ok (.ireturn, 1) := by decide +kernel
theorem dX9_removeScene_27 : decode cX9_removeScene 27 = .ok (.iconst 0, 1) := by decide +kernel
theorem dX9_removeScene_28 : decode cX9_removeScene 28 = .ok (.istore_n 2, 1) := by decide +kernel
theorem dX9_removeScene_29 : decode cX9_removeScene 29 = .ok (.iload_n 1, 1) := by decide +kernel
theorem dX9_removeScene_30 : decode cX9_removeScene 30 = .ok (.iconst 1, 1) := by decide +kernel
theorem dX9_removeScene_31 : decode cX9_removeScene 31 = .ok (.iadd, 1) := by decide +kernel
theorem dX9_removeScene_32 : decode cX9_removeScene 32 = .ok (.istore_n 3, 1) := by decide +kernel
theorem dX9_removeScene_33 : decode cX9_removeScene 33 = .ok (.iload_n 3, 1) := by decide +kernel
theorem dX9_removeScene_34 : decode cX9_removeScene 34 = .ok (.bipush 16, 2) := by decide +kernel
theorem dX9_removeScene_36 : decode cX9_removeScene 36 = .ok (.if_icmp .ge 21, 3) := by decide +kernel
theorem dX9_removeScene_39 : decode cX9_removeScene 39 = .ok (.iload_n 2, 1) := by decide +kernel
theorem dX9_removeScene_40 : decode cX9_removeScene 40 = .ok (.aload_n 0, 1) := by decide +kernel
theorem dX9_removeScene_41 : decode cX9_removeScene 41 = .ok (.getfield 7, 3) := by decide +kernel
theorem dX9_removeScene_44 : decode cX9_removeScene 44 = .ok (.iload_n 3, 1) := by decide +kernel
theorem dX9_removeScene_45 : decode cX9_removeScene 45 = .ok (.invokestatic 55, 3) := by decide +kernel
theorem dX9_removeScene_48 : decode cX9_removeScene 48 = .ok (.iaload, 1) := by decide +kernel
theorem dX9_removeScene_49 : decode cX9_removeScene 49 = .ok (.iadd, 1) := by decide +kernel
theorem dX9_removeScene_50 : decode cX9_removeScene 50 = .ok (.istore_n 2, 1) := by decide +kernel
theorem dX9_removeScene_51 : decode cX9_removeScene 51 = .ok (.iinc 3 1, 3) := by decide +kernel
theorem dX9_removeScene_54 : decode cX9_removeScene 54 = .ok (.goto (-21), 3) := by decide +kernel
theorem dX9_removeScene_57 : decode cX9_removeScene 57 = .ok (.iload_n 2, 1) := by decide +kernel
theorem dX9_removeScene_58 : decode cX9_removeScene 58 = .ok (.ifCond .ne 6, 3) := by decide +kernel
theorem dX9_removeScene_61 : decode cX9_removeScene 61 = .ok (.bipush (-5), 2) := by decide +kernel
theorem dX9_removeScene_63 : decode cX9_removeScene 63 = .ok (.ireturn, 1) := by decide +kernel
theorem dX9_removeScene_64 : decode cX9_removeScene 64 = .ok (.aload_n 0, 1) := by decide +kernel
theorem dX9_removeScene_65 : decode cX9_removeScene 65 = .ok (.invokevirtual 80, 3) := by decide +kernel
theorem dX9_removeScene_68 : decode cX9_removeScene 68 = .ok (.iload_n 1, 1) := by decide +kernel
theorem dX9_removeScene_69 : decode cX9_removeScene 69 = .ok (.istore_n 3, 1) := by decide +kernel
theorem dX9_removeScene_70 : decode cX9_removeScene 70 = .ok (.iload_n 3, 1) := by decide +kernel
theorem dX9_removeScene_71 : decode cX9_removeScene 71 = .ok (.bipush 15, 2) := by decide +kernel
theorem dX9_removeScene_73 : decode cX9_removeScene 73 = .ok (.if_icmp .ge 17, 3) := by decide +kernel
theorem dX9_removeScene_76 : decode cX9_removeScene 76 = .ok (.aload_n 0, 1) := by decide +kernel
theorem dX9_removeScene_77 : decode cX9_removeScene 77 = .ok (.iload_n 3, 1) := by decide +kernel
theorem dX9_removeScene_78 : decode cX9_removeScene 78 = .ok (.iconst 1, 1) := by decide +kernel
theorem dX9_removeScene_79 : decode cX9_removeScene 79 = .ok (.iadd, 1) := by decide +kernel
theorem dX9_removeScene_80 : decode cX9_removeScene 80 = .ok (.iload_n 3, 1) := by decide +kernel
theorem dX9_removeScene_81 : decode cX9_removeScene 81 = .ok (.invokevirtual 138, 3) := by decide +kernel
theorem dX9_removeScene_84 : decode cX9_removeScene 84 = .ok (.iinc 3 1, 3) := by decide +kernel
theorem dX9_removeScene_87 : decode cX9_removeScene 87 = .ok (.goto (-17), 3) := by decide +kernel
theorem dX9_removeScene_90 : decode cX9_removeScene 90 = .ok (.aload_n 0, 1) := by decide +kernel
theorem dX9_removeScene_91 : decode cX9_removeScene 91 = .ok (.getfield 7, 3) := by decide +kernel
theorem dX9_removeScene_94 : decode cX9_removeScene 94 = .ok (.bipush 15, 2) := by decide +kernel
theorem dX9_removeScene_96 : decode cX9_removeScene 96 = .ok (.invokestatic 55, 3) := by decide +kernel
theorem dX9_removeScene_99 : decode cX9_removeScene 99 = .ok (.iconst 0, 1) := by decide +kernel
theorem dX9_removeScene_100 : decode cX9_removeScene 100 = .ok (.iastore, 1) := by decide +kernel
theorem dX9_removeScene_101 : decode cX9_removeScene 101 = .ok (.aload_n 0, 1) := by decide +kernel
theorem dX9_removeScene_102 : decode cX9_removeScene 102 = .ok (.invokevirtual 142, 3) := by decide +kernel
theorem dX9_removeScene_105 : decode cX9_removeScene 105 = .ok (.ireturn, 1) := by decide +kernel
set_option maxRecDepth 20000 in
theorem ggX9_swapScenes_X9_in : GoodIn wsX9_swapScenes wsX9_in := goodIn_r _ [5] (by decide +kernel) (by decide +kernel)
set_option maxRecDepth 20000 in
theorem gX9_swapScenes_X9_in : GoodIn wsX9_swapScenes (va_wsS RX9 48 yX9_in wsX9_in) := goodIn_app (goodIn_of _ (by decide +kernel)) ggX9_swapScenes_X9_in
set_option maxRecDepth 20000 in
theorem ggX9_swapScenes_X9_row : GoodIn wsX9_swapScenes wsX9_row := goodIn_r _ [8] (by decide +kernel) (by decide +kernel)
set_option maxRecDepth 20000 in
theorem gX9_swapScenes_X9_row : GoodIn wsX9_swapScenes (va_wsS RX9 55 yX9_row wsX9_row) := goodIn_app (goodIn_of _ (by decide +kernel)) ggX9_swapScenes_X9_row
set_option maxRecDepth 20000 in
theorem ggX9_swapScenes_X9_record : GoodIn wsX9_swapScenes wsX9_record := goodIn_r _ [12, 13, 14, 1, 44, 45, 46, 47, 48, 49, 50, 51, 52, 53, 54, 55, 56, 57, 58, 59, 60, 61] (by decide +kernel) (by decide +kernel)
set_option maxRecDepth 20000 in
theorem gX9_swapScenes_X9_record : GoodIn wsX9_swapScenes (wsV RX9 80 RX9 yX9_record wsX9_record) := goodIn_app (goodIn_of _ (by decide +kernel)) ggX9_swapScenes_X9_record
set_option maxRecDepth 20000 in
theorem ggX9_swapScenes_X9_allBreaks : GoodIn wsX9_swapScenes wsX9_allBreaks := goodIn_r _ [18, 19, 20, 21, 4, 22, 23, 24, 25, 26, 27, 28, 29, 30, 31, 32, 33, 34, 35, 1, 6, 7, 8, 36, 37, 38, 39, 40, 41, 42, 43, 44, 45, 46, 47, 48, 49, 50, 51, 52, 53, 54, 55, 56, 57, 58, 59, 60, 61] (by decide +kernel) (by decide +kernel)
set_option maxRecDepth 20000 in
theorem gX9_swapScenes_X9_allBreaks : GoodIn wsX9_swapScenes (wsV RX9 135 RX9 yX9_allBreaks wsX9_allBreaks) := goodIn_app (goodIn_of _ (by decide +kernel)) ggX9_swapScenes_X9_allBreaks
theorem dX9_swapScenes_0 : decode cX9_swapScenes 0 = .ok (.iload_n 1, 1) := by decide +kernel
theorem dX9_swapScenes_1 : decode cX9_swapScenes 1 = .ok (.iconst 0, 1) := by decide +kernel
theorem dX9_swapScenes_2 : decode cX9_swapScenes 2 = .ok (.bipush 15, 2) := by decide +kernel
theorem dX9_swapScenes_4 : decode cX9_swapScenes 4 = .ok (.invokestatic 48, 3) := by decide +kernel
theorem dX9_swapScenes_7 : decode cX9_swapScenes 7 = .ok (.ifCond .eq 13, 3) := by decide +kernel
theorem dX9_swapScenes_10 : decode cX9_swapScenes 10 = .ok (.iload_n 2, 1) := by decide +kernel
theorem dX9_swapScenes_11 : decode cX9_swapScenes 11 = .ok (.iconst 0, 1) := by decide +kernel
theorem dX9_swapScenes_12 : decode cX9_swapScenes 12 = .ok (.bipush 15, 2) := by decide +kernel
theorem dX9_swapScenes_14 : decode cX9_swapScenes 14 = .ok (.invokestatic 48, 3) := by decide +kernel
theorem dX9_swapScenes_17 : decode cX9_swapScenes 17 = .ok (.ifCond .ne 5, 3) := by decide +kernel
theorem dX9_swapScenes_20 : decode cX9_swapScenes 20 = .ok (.iconst (-1), 1) := by decide +kernel
theorem dX9_swapScenes_21 : decode cX9_swapScenes 21 = .ok (.ireturn, 1) := by decide +kernel
theorem dX9_swapScenes_22 : decode cX9_swapScenes 22 = .ok (.iload_n 1, 1) := by decide +kernel
theorem dX9_swapScenes_23 : decode cX9_swapScenes 23 = .ok (.iload_n 2, 1) := by decide +kernel
theorem dX9_swapScenes_24 : decode cX9_swapScenes 24 = .ok (.if_icmp .ne 6, 3) := by decide +kernel
theorem dX9_swapScenes_27 : decode cX9_swapScenes 27 = .ok (.bipush (-2), 2) := by decide +kernel
theorem dX9_swapScenes_29 : decode cX9_swapScenes 29 = .ok (.ireturn, 1) := by decide +kernel
theorem dX9_swapScenes_30 : decode cX9_swapScenes 30 = .ok (.aload_n 0, 1) := by decide +kernel
theorem dX9_swapScenes_31 : decode cX9_swapScenes 31 = .ok (.getfield 7, 3) := by decide +kernel
theorem dX9_swapScenes_34 : decode cX9_swapScenes 34 = .ok (.iload_n 1, 1) := by decide +kernel
theorem dX9_swapScenes_35 : decode cX9_swapScenes 35 = .ok (.invokestatic 55, 3) := by decide +kernel
theorem dX9_swapScenes_38 : decode cX9_swapScenes 38 = .ok (.iaload, 1) := by decide +kernel
theorem dX9_swapScenes_39 : decode cX9_swapScenes 39 = .ok (.aload_n 0, 1) := by decide +kernel
theorem dX9_swapScenes_40 : decode cX9_swapScenes 40 = .ok (.getfield 7, 3) := by decide +kernel
theorem dX9_swapScenes_43 : decode cX9_swapScenes 43 = .ok (.iload_n 2, 1) := by decide +kernel
theorem dX9_swapScenes_44 : decode cX9_swapScenes 44 = .ok (.invokestatic 55, 3) := by decide +kernel
theorem dX9_swapScenes_47 : decode cX9_swapScenes 47 = .ok (.iaload, 1) := by decide +kernel
theorem dX9_swapScenes_48 : decode cX9_swapScenes 48 = .ok (.iadd, 1) := by decide +kernel
theorem dX9_swapScenes_49 : decode cX9_swapScenes 49 = .ok (.ifCond .ne 6, 3) := by decide +kernel
theorem dX9_swapScenes_52 : decode cX9_swapScenes 52 = .ok (.bipush (-5), 2) := by decide +kernel
theorem dX9_swapScenes_54 : decode cX9_swapScenes 54 = .ok (.ireturn, 1) := by decide +kernel
theorem dX9_swapScenes_55 : decode cX9_swapScenes 55 = .ok (.aload_n 0, 1) := by decide +kernel
theorem dX9_swapScenes_56 : decode cX9_swapScenes 56 = .ok (.invokevirtual 80, 3) := by decide +kernel
theorem dX9_swapScenes_59 : decode cX9_swapScenes 59 = .ok (.iconst 0, 1) := by decide +kernel
theorem dX9_swapScenes_60 : decode cX9_swapScenes 60 = .ok (.istore_n 3, 1) := by decide +kernel
theorem dX9_swapScenes_61 : decode cX9_swapScenes 61 = .ok (.iload_n 3, 1) := by decide +kernel
theorem dX9_swapScenes_62 : decode cX9_swapScenes 62 = .ok (.bipush 7, 2) := by decide +kernel
theorem dX9_swapScenes_64 : decode cX9_swapScenes 64 = .ok (.if_icmp .ge 57, 3) := by decide +kernel
theorem dX9_swapScenes_67 : decode cX9_swapScenes 67 = .ok (.aload_n 0, 1) := by decide +kernel
theorem dX9_swapScenes_68 : decode cX9_swapScenes 68 = .ok (.getfield 7, 3) := by decide +kernel
theorem dX9_swapScenes_71 : decode cX9_swapScenes 71 = .ok (.iload_n 1, 1) := by decide +kernel
theorem dX9_swapScenes_72 : decode cX9_swapScenes 72 = .ok (.invokestatic 55, 3) := by decide +kernel
theorem dX9_swapScenes_75 : decode cX9_swapScenes 75 = .ok (.iload_n 3, 1) := by decide +kernel
theorem dX9_swapScenes_76 : decode cX9_swapScenes 76 = .ok (.iadd, 1) := by decide +kernel
theorem dX9_swapScenes_77 : decode cX9_swapScenes 77 = .ok (.iaload, 1) := by decide +kernel
theorem dX9_swapScenes_78 : decode cX9_swapScenes 78 = .ok (.istore 4, 2) := by decide +kernel
theorem dX9_swapScenes_80 : decode cX9_swapScenes 80 = .ok (.aload_n 0, 1) := by decide +kernel
theorem dX9_swapScenes_81 : decode cX9_swapScenes 81 = .ok (.getfield 7, 3) := by decide +kernel
theorem dX9_swapScenes_84 : decode cX9_swapScenes 84 = .ok (.iload_n 1, 1) := by decide +kernel
theorem dX9_swapScenes_85 : decode cX9_swapScenes 85 = .ok (.invokestatic 55, 3) := by decide +kernel
theorem dX9_swapScenes_88 : decode cX9_swapScenes 88 = .ok (.iload_n 3, 1) := by decide +kernel
theorem dX9_swapScenes_89 : decode cX9_swapScenes 89 = .ok (.iadd, 1) := by decide +kernel
theorem dX9_swapScenes_90 : decode cX9_swapScenes 90 = .ok (.aload_n 0, 1) := by decide +kernel
theorem dX9_swapScenes_91 : decode cX9_swapScenes 91 = .ok (.getfield 7, 3) := by decide +kernel
theorem dX9_swapScenes_94 : decode cX9_swapScenes 94 = .ok (.iload_n 2, 1) := by decide +kernel
theorem dX9_swapScenes_95 : decode cX9_swapScenes 95 = .ok (.invokestatic 55, 3) := by decide +kernel
theorem dX9_swapScenes_98 : decode cX9_swapScenes 98 = .ok (.iload_n 3, 1) := by decide +kernel
theorem dX9_swapScenes_99 : decode cX9_swapScenes 99 = .ok (.iadd, 1) := by decide +kernel
theorem dX9_swapScenes_100 : decode cX9_swapScenes 100 = .ok (.iaload, 1) := by decide +kernel
theorem dX9_swapScenes_101 : decode cX9_swapScenes 101 = .ok (.iastore, 1) := by decide +kernel
theorem dX9_swapScenes_102 : decode cX9_swapScenes 102 = .ok (.aload_n 0, 1) := by decide +kernel
theorem dX9_swapScenes_103 : decode cX9_swapScenes 103 = .ok (.getfield 7, 3) := by decide +kernel
theorem dX9_swapScenes_106 : decode cX9_swapScenes 106 = .ok (.iload_n 2, 1) := by decide +kernel
theorem dX9_swapScenes_107 : decode cX9_swapScenes 107 = .ok (.invokestatic 55, 3) := by decide +kernel
theorem dX9_swapScenes_110 : decode cX9_swapScenes 110 = .ok (.iload_n 3, 1) := by decide +kernel
theorem dX9_swapScenes_111 : decode cX9_swapScenes 111 = .ok (.iadd, 1) := by decide +kernel
theorem dX9_swapScenes_112 : decode cX9_swapScenes 112 = .ok (.iload 4, 2) := by decide +kernel
theorem dX9_swapScenes_114 : decode cX9_swapScenes 114 = .ok (.iastore, 1) := by decide +kernel
theorem dX9_swapScenes_115 : decode cX9_swapScenes 115 = .ok (.iinc 3 1, 3) := by decide +kernel
theorem dX9_swapScenes_118 : decode cX9_swapScenes 118 = .ok (.goto (-57), 3) := by decide +kernel
theorem dX9_swapScenes_121 : decode cX9_swapScenes 121 = .ok (.aload_n 0, 1) := by decide +kernel
theorem dX9_swapScenes_122 : decode cX9_swapScenes 122 = .ok (.invokevirtual 135, 3) := by decide +kernel
theorem dX9_swapScenes_125 : decode cX9_swapScenes 125 = .ok (.ireturn, 1) := by decide +kernel
set_option maxRecDepth 20000 in
theorem ggX9_set_X9_in : GoodIn wsX9_set wsX9_in := goodIn_r _ [5] (by decide +kernel) (by decide +kernel)
set_option maxRecDepth 20000 in
theorem gX9_set_X9_in : GoodIn wsX9_set (va_wsS RX9 48 yX9_in wsX9_in) := goodIn_app (goodIn_of _ (by decide +kernel)) ggX9_set_X9_in
set_option maxRecDepth 20000 in
theorem ggX9_set_X9_record : GoodIn wsX9_set wsX9_record := goodIn_r _ [9, 10, 11, 1, 12, 13, 14, 15, 16, 17, 18, 19, 20, 21, 22, 23, 24, 25, 26, 27, 28, 29] (by decide +kernel) (by decide +kernel)
set_option maxRecDepth 20000 in
theorem gX9_set_X9_record : GoodIn wsX9_set (wsV RX9 80 RX9 yX9_record wsX9_record) := goodIn_app (goodIn_of _ (by decide +kernel)) ggX9_set_X9_record
theorem dX9_set_0 : decode cX9_set 0 = .ok (.iload_n 1, 1) := by decide +kernel
theorem dX9_set_1 : decode cX9_set 1 = .ok (.ifCond .ne 13, 3) := by decide +kernel
theorem dX9_set_4 : decode cX9_set 4 = .ok (.iload_n 2, 1) := by decide +kernel
theorem dX9_set_5 : decode cX9_set 5 = .ok (.iconst 0, 1) := by decide +kernel
theorem dX9_set_6 : decode cX9_set 6 = .ok (.bipush 14, 2) := by decide +kernel
theorem dX9_set_8 : decode cX9_set 8 = .ok (.invokestatic 48, 3) := by decide +kernel
theorem dX9_set_11 : decode cX9_set 11 = .ok (.goto 40, 3) := by decide +kernel
theorem dX9_set_14 : decode cX9_set 14 = .ok (.iload_n 1, 1) := by decide +kernel
theorem dX9_set_15 : decode cX9_set 15 = .ok (.iconst 1, 1) := by decide +kernel
theorem dX9_set_16 : decode cX9_set 16 = .ok (.if_icmp .ne 14, 3) := by decide +kernel
theorem dX9_set_19 : decode cX9_set 19 = .ok (.iload_n 2, 1) := by decide +kernel
theorem dX9_set_20 : decode cX9_set 20 = .ok (.iconst 1, 1) := by decide +kernel
theorem dX9_set_21 : decode cX9_set 21 = .ok (.sipush 9999, 3) := by decide +kernel
theorem dX9_set_24 : decode cX9_set 24 = .ok (.invokestatic 48, 3) := by decide +kernel
theorem dX9_set_27 : decode cX9_set 27 = .ok (.goto 24, 3) := by decide +kernel
theorem dX9_set_30 : decode cX9_set 30 = .ok (.iload_n 1, 1) := by decide +kernel
theorem dX9_set_31 : decode cX9_set 31 = .ok (.iconst 2, 1) := by decide +kernel
theorem dX9_set_32 : decode cX9_set 32 = .ok (.if_icmp .ne 18, 3) := by decide +kernel
theorem dX9_set_35 : decode cX9_set 35 = .ok (.iload_n 2, 1) := by decide +kernel
theorem dX9_set_36 : decode cX9_set 36 = .ok (.iconst 0, 1) := by decide +kernel
theorem dX9_set_37 : decode cX9_set 37 = .ok (.sipush 1000, 3) := by decide +kernel
theorem dX9_set_40 : decode cX9_set 40 = .ok (.invokestatic 48, 3) := by decide +kernel
theorem dX9_set_43 : decode cX9_set 43 = .ok (.ifCond .eq 7, 3) := by decide +kernel
theorem dX9_set_46 : decode cX9_set 46 = .ok (.iconst 1, 1) := by decide +kernel
theorem dX9_set_47 : decode cX9_set 47 = .ok (.goto 4, 3) := by decide +kernel
theorem dX9_set_50 : decode cX9_set 50 = .ok (.iconst 0, 1) := by decide +kernel
theorem dX9_set_51 : decode cX9_set 51 = .ok (.istore_n 3, 1) := by decide +kernel
theorem dX9_set_52 : decode cX9_set 52 = .ok (.iload_n 3, 1) := by decide +kernel
theorem dX9_set_53 : decode cX9_set 53 = .ok (.ifCond .ne 6, 3) := by decide +kernel
theorem dX9_set_56 : decode cX9_set 56 = .ok (.bipush (-2), 2) := by decide +kernel
theorem dX9_set_58 : decode cX9_set 58 = .ok (.ireturn, 1) := by decide +kernel
theorem dX9_set_59 : decode cX9_set 59 = .ok (.aload_n 0, 1) := by decide +kernel
theorem dX9_set_60 : decode cX9_set 60 = .ok (.getfield 7, 3) := by decide +kernel
theorem dX9_set_63 : decode cX9_set 63 = .ok (.iconst 1, 1) := by decide +kernel
theorem dX9_set_64 : decode cX9_set 64 = .ok (.iload_n 1, 1) := by decide +kernel
theorem dX9_set_65 : decode cX9_set 65 = .ok (.iadd, 1) := by decide +kernel
theorem dX9_set_66 : decode cX9_set 66 = .ok (.iaload, 1) := by decide +kernel
theorem dX9_set_67 : decode cX9_set 67 = .ok (.istore 4, 2) := by decide +kernel
theorem dX9_set_69 : decode cX9_set 69 = .ok (.iload 4, 2) := by decide +kernel
theorem dX9_set_71 : decode cX9_set 71 = .ok (.iload_n 2, 1) := by decide +kernel
theorem dX9_set_72 : decode cX9_set 72 = .ok (.if_icmp .ne 6, 3) := by decide +kernel
theorem dX9_set_75 : decode cX9_set 75 = .ok (.bipush (-5), 2) := by decide +kernel
theorem dX9_set_77 : decode cX9_set 77 = .ok (.ireturn, 1) := by decide +kernel
theorem dX9_set_78 : decode cX9_set 78 = .ok (.aload_n 0, 1) := by decide +kernel
theorem dX9_set_79 : decode cX9_set 79 = .ok (.invokevirtual 80, 3) := by decide +kernel
theorem dX9_set_82 : decode cX9_set 82 = .ok (.aload_n 0, 1) := by decide +kernel
theorem dX9_set_83 : decode cX9_set 83 = .ok (.getfield 7, 3) := by decide +kernel
theorem dX9_set_86 : decode cX9_set 86 = .ok (.iconst 1, 1) := by decide +kernel
theorem dX9_set_87 : decode cX9_set 87 = .ok (.iload_n 1, 1) := by decide +kernel
theorem dX9_set_88 : decode cX9_set 88 = .ok (.iadd, 1) := by decide +kernel
theorem dX9_set_89 : decode cX9_set 89 = .ok (.iload_n 2, 1) := by decide +kernel
theorem dX9_set_90 : decode cX9_set 90 = .ok (.iastore, 1) := by decide +kernel
theorem dX9_set_91 : decode cX9_set 91 = .ok (.iload 4, 2) := by decide +kernel
theorem dX9_set_93 : decode cX9_set 93 = .ok (.ireturn, 1) := by decide +kernel
theorem dX9_type_0 : decode cX9_type 0 = .ok (.aload_n 0, 1) := by decide +kernel
theorem dX9_type_1 : decode cX9_type 1 = .ok (.getfield 87, 3) := by decide +kernel
theorem dX9_type_4 : decode cX9_type 4 = .ok (.bipush 60, 2) := by decide +kernel
theorem dX9_type_6 : decode cX9_type 6 = .ok (.if_icmp .ne 6, 3) := by decide +kernel
theorem dX9_type_9 : decode cX9_type 9 = .ok (.bipush (-3), 2) := by decide +kernel
theorem dX9_type_11 : decode cX9_type 11 = .ok (.ireturn, 1) := by decide +kernel
theorem dX9_type_12 : decode cX9_type 12 = .ok (.aload_n 0, 1) := by decide +kernel
theorem dX9_type_13 : decode cX9_type 13 = .ok (.getfield 40, 3) := by decide +kernel
theorem dX9_type_16 : decode cX9_type 16 = .ok (.aload_n 0, 1) := by decide +kernel
theorem dX9_type_17 : decode cX9_type 17 = .ok (.getfield 87, 3) := by decide +kernel
theorem dX9_type_20 : decode cX9_type 20 = .ok (.iload_n 1, 1) := by decide +kernel
theorem dX9_type_21 : decode cX9_type 21 = .ok (.castore, 1) := by decide +kernel
theorem dX9_type_22 : decode cX9_type 22 = .ok (.aload_n 0, 1) := by decide +kernel
theorem dX9_type_23 : decode cX9_type 23 = .ok (.dup, 1) := by decide +kernel
theorem dX9_type_24 : decode cX9_type 24 = .ok (.getfield 87, 3) := by decide +kernel
theorem dX9_type_27 : decode cX9_type 27 = .ok (.iconst 1, 1) := by decide +kernel
theorem dX9_type_28 : decode cX9_type 28 = .ok (.iadd, 1) := by decide +kernel
theorem dX9_type_29 : decode cX9_type 29 = .ok (.putfield 87, 3) := by decide +kernel
theorem dX9_type_32 : decode cX9_type 32 = .ok (.aload_n 0, 1) := by decide +kernel
theorem dX9_type_33 : decode cX9_type 33 = .ok (.getfield 87, 3) := by decide +kernel
theorem dX9_type_36 : decode cX9_type 36 = .ok (.ireturn, 1) := by decide +kernel
theorem dX9_clearText_0 : decode cX9_clearText 0 = .ok (.aload_n 0, 1) := by decide +kernel
theorem dX9_clearText_1 : decode cX9_clearText 1 = .ok (.getfield 87, 3) := by decide +kernel
theorem dX9_clearText_4 : decode cX9_clearText 4 = .ok (.istore_n 1, 1) := by decide +kernel
theorem dX9_clearText_5 : decode cX9_clearText 5 = .ok (.aload_n 0, 1) := by decide +kernel
theorem dX9_clearText_6 : decode cX9_clearText 6 = .ok (.iconst 0, 1) := by decide +kernel
theorem dX9_clearText_7 : decode cX9_clearText 7 = .ok (.putfield 87, 3) := by decide +kernel
theorem dX9_clearText_10 : decode cX9_clearText 10 = .ok (.iload_n 1, 1) := by decide +kernel
theorem dX9_clearText_11 : decode cX9_clearText 11 = .ok (.ireturn, 1) := by decide +kernel
theorem dX9_undo_0 : decode cX9_undo 0 = .ok (.aload_n 0, 1) := by decide +kernel
theorem dX9_undo_1 : decode cX9_undo 1 = .ok (.getfield 44, 3) := by decide +kernel
theorem dX9_undo_4 : decode cX9_undo 4 = .ok (.ifCond .ne 6, 3) := by decide +kernel
theorem dX9_undo_7 : decode cX9_undo 7 = .ok (.bipush (-5), 2) := by decide +kernel
theorem dX9_undo_9 : decode cX9_undo 9 = .ok (.ireturn, 1) := by decide +kernel
theorem dX9_undo_10 : decode cX9_undo 10 = .ok (.aload_n 0, 1) := by decide +kernel
theorem dX9_undo_11 : decode cX9_undo 11 = .ok (.dup, 1) := by decide +kernel
theorem dX9_undo_12 : decode cX9_undo 12 = .ok (.getfield 44, 3) := by decide +kernel
theorem dX9_undo_15 : decode cX9_undo 15 = .ok (.iconst 1, 1) := by decide +kernel
theorem dX9_undo_16 : decode cX9_undo 16 = .ok (.isub, 1) := by decide +kernel
theorem dX9_undo_17 : decode cX9_undo 17 = .ok (.putfield 44, 3) := by decide +kernel
theorem dX9_undo_20 : decode cX9_undo 20 = .ok (.iconst 0, 1) := by decide +kernel
theorem dX9_undo_21 : decode cX9_undo 21 = .ok (.istore_n 1, 1) := by decide +kernel
theorem dX9_undo_22 : decode cX9_undo 22 = .ok (.iload_n 1, 1) := by decide +kernel
theorem dX9_undo_23 : decode cX9_undo 23 = .ok (.sipush 316, 3) := by decide +kernel
theorem dX9_undo_26 : decode cX9_undo 26 = .ok (.if_icmp .ge 30, 3) := by decide +kernel
theorem dX9_undo_29 : decode cX9_undo 29 = .ok (.aload_n 0, 1) := by decide +kernel
theorem dX9_undo_30 : decode cX9_undo 30 = .ok (.getfield 7, 3) := by decide +kernel
theorem dX9_undo_33 : decode cX9_undo 33 = .ok (.iload_n 1, 1) := by decide +kernel
theorem dX9_undo_34 : decode cX9_undo 34 = .ok (.aload_n 0, 1) := by decide +kernel
theorem dX9_undo_35 : decode cX9_undo 35 = .ok (.getfield 13, 3) := by decide +kernel
theorem dX9_undo_38 : decode cX9_undo 38 = .ok (.sipush 316, 3) := by decide +kernel
theorem dX9_undo_41 : decode cX9_undo 41 = .ok (.aload_n 0, 1) := by decide +kernel
theorem dX9_undo_42 : decode cX9_undo 42 = .ok (.getfield 44, 3) := by decide +kernel
theorem dX9_undo_45 : decode cX9_undo 45 = .ok (.imul, 1) := by decide +kernel
theorem dX9_undo_46 : decode cX9_undo 46 = .ok (.iload_n 1, 1) := by decide +kernel
theorem dX9_undo_47 : decode cX9_undo 47 = .ok (.iadd, 1) := by decide +kernel
theorem dX9_undo_48 : decode cX9_undo 48 = .ok (.iaload, 1) := by decide +kernel
theorem dX9_undo_49 : decode cX9_undo 49 = .ok (.iastore, 1) := by decide +kernel
theorem dX9_undo_50 : decode cX9_undo 50 = .ok (.iinc 1 1, 3) := by decide +kernel
theorem dX9_undo_53 : decode cX9_undo 53 = .ok (.goto (-31), 3) := by decide +kernel
theorem dX9_undo_56 : decode cX9_undo 56 = .ok (.aload_n 0, 1) := by decide +kernel
theorem dX9_undo_57 : decode cX9_undo 57 = .ok (.getfield 44, 3) := by decide +kernel
theorem dX9_undo_60 : decode cX9_undo 60 = .ok (.ireturn, 1) := by decide +kernel
set_option maxRecDepth 20000 in
theorem ggX9_wallMany_X9_layOrder : GoodIn wsX9_wallMany wsX9_layOrder := goodIn_r _ [6, 1, 7, 8, 9, 10, 11, 5, 12, 13, 14, 15, 16, 17, 18, 19, 20, 21, 22, 23, 24, 25, 26, 27, 28, 29, 30] (by decide +kernel) (by decide +kernel)
set_option maxRecDepth 20000 in
theorem gX9_wallMany_X9_layOrder : GoodIn wsX9_wallMany (wsV RX9 59 RX9 yX9_layOrder wsX9_layOrder) := goodIn_app (goodIn_of _ (by decide +kernel)) ggX9_wallMany_X9_layOrder
theorem dX9_wallMany_0 : decode cX9_wallMany 0 = .ok (.aload_n 0, 1) := by decide +kernel
theorem dX9_wallMany_1 : decode cX9_wallMany 1 = .ok (.invokevirtual 59, 3) := by decide +kernel
theorem dX9_wallMany_4 : decode cX9_wallMany 4 = .ok (.aload_n 0, 1) := by decide +kernel
theorem dX9_wallMany_5 : decode cX9_wallMany 5 = .ok (.getfield 52, 3) := by decide +kernel
theorem dX9_wallMany_8 : decode cX9_wallMany 8 = .ok (.ireturn, 1) := by decide +kernel
set_option maxRecDepth 20000 in
theorem ggX9_keep_X9_wallMany : GoodIn wsX9_keep wsX9_wallMany := goodIn_r _ [8, 9, 10, 11, 12, 7, 13, 14, 2, 15, 16, 17, 18, 19, 20, 21, 22, 23, 24, 25, 26, 27, 28, 29, 30, 31, 32, 33, 34, 35, 36] (by decide +kernel) (by decide +kernel)
set_option maxRecDepth 20000 in
theorem gX9_keep_X9_wallMany : GoodIn wsX9_keep (wsV RX9 149 RX9 yX9_wallMany wsX9_wallMany) := goodIn_app (goodIn_of _ (by decide +kernel)) ggX9_keep_X9_wallMany
theorem dX9_keep_0 : decode cX9_keep 0 = .ok (.iconst 0, 1) := by decide +kernel
theorem dX9_keep_1 : decode cX9_keep 1 = .ok (.istore_n 1, 1) := by decide +kernel
theorem dX9_keep_2 : decode cX9_keep 2 = .ok (.iload_n 1, 1) := by decide +kernel
theorem dX9_keep_3 : decode cX9_keep 3 = .ok (.sipush 316, 3) := by decide +kernel
theorem dX9_keep_6 : decode cX9_keep 6 = .ok (.if_icmp .ge 21, 3) := by decide +kernel
theorem dX9_keep_9 : decode cX9_keep 9 = .ok (.aload_n 0, 1) := by decide +kernel
theorem dX9_keep_10 : decode cX9_keep 10 = .ok (.getfield 16, 3) := by decide +kernel
theorem dX9_keep_13 : decode cX9_keep 13 = .ok (.iload_n 1, 1) := by decide +kernel
theorem dX9_keep_14 : decode cX9_keep 14 = .ok (.aload_n 0, 1) := by decide +kernel
theorem dX9_keep_15 : decode cX9_keep 15 = .ok (.getfield 7, 3) := by decide +kernel
theorem dX9_keep_18 : decode cX9_keep 18 = .ok (.iload_n 1, 1) := by decide +kernel
theorem dX9_keep_19 : decode cX9_keep 19 = .ok (.iaload, 1) := by decide +kernel
theorem dX9_keep_20 : decode cX9_keep 20 = .ok (.iastore, 1) := by decide +kernel
theorem dX9_keep_21 : decode cX9_keep 21 = .ok (.iinc 1 1, 3) := by decide +kernel
theorem dX9_keep_24 : decode cX9_keep 24 = .ok (.goto (-22), 3) := by decide +kernel
theorem dX9_keep_27 : decode cX9_keep 27 = .ok (.aload_n 0, 1) := by decide +kernel
theorem dX9_keep_28 : decode cX9_keep 28 = .ok (.iconst 1, 1) := by decide +kernel
theorem dX9_keep_29 : decode cX9_keep 29 = .ok (.putfield 145, 3) := by decide +kernel
theorem dX9_keep_32 : decode cX9_keep 32 = .ok (.aload_n 0, 1) := by decide +kernel
theorem dX9_keep_33 : decode cX9_keep 33 = .ok (.invokevirtual 149, 3) := by decide +kernel
theorem dX9_keep_36 : decode cX9_keep 36 = .ok (.ireturn, 1) := by decide +kernel
set_option maxRecDepth 20000 in
theorem ggX9_restore_X9_record : GoodIn wsX9_restore wsX9_record := goodIn_r _ [8, 9, 10, 2, 25, 26, 27, 28, 29, 30, 31, 32, 33, 34, 35, 36, 37, 38, 39, 40, 41, 42] (by decide +kernel) (by decide +kernel)
set_option maxRecDepth 20000 in
theorem gX9_restore_X9_record : GoodIn wsX9_restore (wsV RX9 80 RX9 yX9_record wsX9_record) := goodIn_app (goodIn_of _ (by decide +kernel)) ggX9_restore_X9_record
set_option maxRecDepth 20000 in
theorem ggX9_restore_X9_wallMany : GoodIn wsX9_restore wsX9_wallMany := goodIn_r _ [14, 15, 16, 17, 18, 7, 19, 20, 2, 21, 22, 23, 24, 25, 26, 27, 28, 29, 30, 31, 32, 33, 34, 35, 36, 37, 38, 39, 40, 41, 42] (by decide +kernel) (by decide +kernel)
set_option maxRecDepth 20000 in
theorem gX9_restore_X9_wallMany : GoodIn wsX9_restore (wsV RX9 149 RX9 yX9_wallMany wsX9_wallMany) := goodIn_app (goodIn_of _ (by decide +kernel)) ggX9_restore_X9_wallMany
theorem dX9_restore_0 : decode cX9_restore 0 = .ok (.aload_n 0, 1) := by decide +kernel
theorem dX9_restore_1 : decode cX9_restore 1 = .ok (.getfield 145, 3) := by decide +kernel
theorem dX9_restore_4 : decode cX9_restore 4 = .ok (.ifCond .ne 6, 3) := by decide +kernel
theorem dX9_restore_7 : decode cX9_restore 7 = .ok (.bipush (-5), 2) := by decide +kernel
theorem dX9_restore_9 : decode cX9_restore 9 = .ok (.ireturn, 1) := by decide +kernel
theorem dX9_restore_10 : decode cX9_restore 10 = .ok (.aload_n 0, 1) := by decide +kernel
theorem dX9_restore_11 : decode cX9_restore 11 = .ok (.invokevirtual 80, 3) := by decide +kernel
theorem dX9_restore_14 : decode cX9_restore 14 = .ok (.iconst 0, 1) := by decide +kernel
theorem dX9_restore_15 : decode cX9_restore 15 = .ok (.istore_n 1, 1) := by decide +kernel
theorem dX9_restore_16 : decode cX9_restore 16 = .ok (.iload_n 1, 1) := by decide +kernel
theorem dX9_restore_17 : decode cX9_restore 17 = .ok (.sipush 316, 3) := by decide +kernel
theorem dX9_restore_20 : decode cX9_restore 20 = .ok (.if_icmp .ge 21, 3) := by decide +kernel
theorem dX9_restore_23 : decode cX9_restore 23 = .ok (.aload_n 0, 1) := by decide +kernel
theorem dX9_restore_24 : decode cX9_restore 24 = .ok (.getfield 7, 3) := by decide +kernel
theorem dX9_restore_27 : decode cX9_restore 27 = .ok (.iload_n 1, 1) := by decide +kernel
theorem dX9_restore_28 : decode cX9_restore 28 = .ok (.aload_n 0, 1) := by decide +kernel
theorem dX9_restore_29 : decode cX9_restore 29 = .ok (.getfield 16, 3) := by decide +kernel
theorem dX9_restore_32 : decode cX9_restore 32 = .ok (.iload_n 1, 1) := by decide +kernel
theorem dX9_restore_33 : decode cX9_restore 33 = .ok (.iaload, 1) := by decide +kernel
theorem dX9_restore_34 : decode cX9_restore 34 = .ok (.iastore, 1) := by decide +kernel
theorem dX9_restore_35 : decode cX9_restore 35 = .ok (.iinc 1 1, 3) := by decide +kernel
theorem dX9_restore_38 : decode cX9_restore 38 = .ok (.goto (-22), 3) := by decide +kernel
theorem dX9_restore_41 : decode cX9_restore 41 = .ok (.aload_n 0, 1) := by decide +kernel
theorem dX9_restore_42 : decode cX9_restore 42 = .ok (.invokevirtual 149, 3) := by decide +kernel
theorem dX9_restore_45 : decode cX9_restore 45 = .ok (.ireturn, 1) := by decide +kernel
set_option maxRecDepth 20000 in
theorem ggX9_ahead_X9_layOrder : GoodIn wsX9_ahead wsX9_layOrder := goodIn_r _ [7, 8, 1, 9, 2, 10, 11, 6, 12, 17, 18, 19, 20, 21, 22, 23, 24, 25, 26, 27, 28, 29, 30, 31, 32, 33, 34] (by decide +kernel) (by decide +kernel)
set_option maxRecDepth 20000 in
theorem gX9_ahead_X9_layOrder : GoodIn wsX9_ahead (wsV RX9 59 RX9 yX9_layOrder wsX9_layOrder) := goodIn_app (goodIn_of _ (by decide +kernel)) ggX9_ahead_X9_layOrder
set_option maxRecDepth 20000 in
theorem ggX9_ahead_X9_of : GoodIn wsX9_ahead wsX9_of := goodIn_r _ [16, 9, 17, 18, 19, 20, 21, 22, 23, 24, 25, 26, 27, 28, 29, 30, 31, 32, 33, 34] (by decide +kernel) (by decide +kernel)
set_option maxRecDepth 20000 in
theorem gX9_ahead_X9_of : GoodIn wsX9_ahead (wsV RX9 65 RX9 yX9_of wsX9_of) := goodIn_app (goodIn_of _ (by decide +kernel)) ggX9_ahead_X9_of
theorem dX9_ahead_0 : decode cX9_ahead 0 = .ok (.aload_n 0, 1) := by decide +kernel
theorem dX9_ahead_1 : decode cX9_ahead 1 = .ok (.invokevirtual 59, 3) := by decide +kernel
theorem dX9_ahead_4 : decode cX9_ahead 4 = .ok (.bipush (-5), 2) := by decide +kernel
theorem dX9_ahead_6 : decode cX9_ahead 6 = .ok (.istore_n 2, 1) := by decide +kernel
theorem dX9_ahead_7 : decode cX9_ahead 7 = .ok (.iconst 0, 1) := by decide +kernel
theorem dX9_ahead_8 : decode cX9_ahead 8 = .ok (.istore_n 3, 1) := by decide +kernel
theorem dX9_ahead_9 : decode cX9_ahead 9 = .ok (.iload_n 3, 1) := by decide +kernel
theorem dX9_ahead_10 : decode cX9_ahead 10 = .ok (.aload_n 0, 1) := by decide +kernel
theorem dX9_ahead_11 : decode cX9_ahead 11 = .ok (.getfield 25, 3) := by decide +kernel
theorem dX9_ahead_14 : decode cX9_ahead 14 = .ok (.iload_n 1, 1) := by decide +kernel
theorem dX9_ahead_15 : decode cX9_ahead 15 = .ok (.iaload, 1) := by decide +kernel
theorem dX9_ahead_16 : decode cX9_ahead 16 = .ok (.if_icmp .ge 40, 3) := by decide +kernel
theorem dX9_ahead_19 : decode cX9_ahead 19 = .ok (.aload_n 0, 1) := by decide +kernel
theorem dX9_ahead_20 : decode cX9_ahead 20 = .ok (.aload_n 0, 1) := by decide +kernel
theorem dX9_ahead_21 : decode cX9_ahead 21 = .ok (.getfield 22, 3) := by decide +kernel
theorem dX9_ahead_24 : decode cX9_ahead 24 = .ok (.iload_n 3, 1) := by decide +kernel
theorem dX9_ahead_25 : decode cX9_ahead 25 = .ok (.iaload, 1) := by decide +kernel
theorem dX9_ahead_26 : decode cX9_ahead 26 = .ok (.iconst 0, 1) := by decide +kernel
theorem dX9_ahead_27 : decode cX9_ahead 27 = .ok (.invokevirtual 65, 3) := by decide +kernel
theorem dX9_ahead_30 : decode cX9_ahead 30 = .ok (.aload_n 0, 1) := by decide +kernel
theorem dX9_ahead_31 : decode cX9_ahead 31 = .ok (.iload_n 1, 1) := by decide +kernel
theorem dX9_ahead_32 : decode cX9_ahead 32 = .ok (.iconst 0, 1) := by decide +kernel
theorem dX9_ahead_33 : decode cX9_ahead 33 = .ok (.invokevirtual 65, 3) := by decide +kernel
theorem dX9_ahead_36 : decode cX9_ahead 36 = .ok (.if_icmp .ne 12, 3) := by decide +kernel
theorem dX9_ahead_39 : decode cX9_ahead 39 = .ok (.aload_n 0, 1) := by decide +kernel
theorem dX9_ahead_40 : decode cX9_ahead 40 = .ok (.getfield 22, 3) := by decide +kernel
theorem dX9_ahead_43 : decode cX9_ahead 43 = .ok (.iload_n 3, 1) := by decide +kernel
theorem dX9_ahead_44 : decode cX9_ahead 44 = .ok (.iaload, 1) := by decide +kernel
theorem dX9_ahead_45 : decode cX9_ahead 45 = .ok (.goto 4, 3) := by decide +kernel
theorem dX9_ahead_48 : decode cX9_ahead 48 = .ok (.iload_n 2, 1) := by decide +kernel
theorem dX9_ahead_49 : decode cX9_ahead 49 = .ok (.istore_n 2, 1) := by decide +kernel
theorem dX9_ahead_50 : decode cX9_ahead 50 = .ok (.iinc 3 1, 3) := by decide +kernel
theorem dX9_ahead_53 : decode cX9_ahead 53 = .ok (.goto (-44), 3) := by decide +kernel
theorem dX9_ahead_56 : decode cX9_ahead 56 = .ok (.iload_n 2, 1) := by decide +kernel
theorem dX9_ahead_57 : decode cX9_ahead 57 = .ok (.ireturn, 1) := by decide +kernel
set_option maxRecDepth 20000 in
theorem ggX9_card_X9_isCard : GoodIn wsX9_card wsX9_isCard := goodIn_r _ [6, 7, 8, 9, 5, 10, 46, 47, 48, 49, 50, 51, 52, 53, 54, 55, 56, 57, 58, 59, 60, 61, 62, 63] (by decide +kernel) (by decide +kernel)
set_option maxRecDepth 20000 in
theorem gX9_card_X9_isCard : GoodIn wsX9_card (wsV RX9 114 RX9 yX9_isCard wsX9_isCard) := goodIn_app (goodIn_of _ (by decide +kernel)) ggX9_card_X9_isCard
set_option maxRecDepth 20000 in
theorem ggX9_card_X9_of : GoodIn wsX9_card wsX9_of := goodIn_r _ [14, 7, 46, 47, 48, 49, 50, 51, 52, 53, 54, 55, 56, 57, 58, 59, 60, 61, 62, 63] (by decide +kernel) (by decide +kernel)
set_option maxRecDepth 20000 in
theorem gX9_card_X9_of : GoodIn wsX9_card (wsV RX9 65 RX9 yX9_of wsX9_of) := goodIn_app (goodIn_of _ (by decide +kernel)) ggX9_card_X9_of
set_option maxRecDepth 20000 in
theorem ggX9_card_X9_sceneOf : GoodIn wsX9_card wsX9_sceneOf := goodIn_r _ [18, 7, 19, 20, 5, 21, 46, 47, 48, 49, 50, 51, 52, 53, 54, 55, 56, 57, 58, 59, 60, 61, 62, 63] (by decide +kernel) (by decide +kernel)
set_option maxRecDepth 20000 in
theorem gX9_card_X9_sceneOf : GoodIn wsX9_card (wsV RX9 73 RX9 yX9_sceneOf wsX9_sceneOf) := goodIn_app (goodIn_of _ (by decide +kernel)) ggX9_card_X9_sceneOf
set_option maxRecDepth 20000 in
theorem ggX9_card_X9_placeOf : GoodIn wsX9_card wsX9_placeOf := goodIn_r _ [25, 7, 19, 20, 5, 21, 46, 47, 48, 49, 50, 51, 52, 53, 54, 55, 56, 57, 58, 59, 60, 61, 62, 63] (by decide +kernel) (by decide +kernel)
