theorem dX8_addAll_55 : decode cX8_addAll 55 = .ok (.invokevirtual 82, 3) := by decide +kernel
theorem dX8_addAll_58 : decode cX8_addAll 58 = .ok (.iconst 0, 1) := by decide +kernel
theorem dX8_addAll_59 : decode cX8_addAll 59 = .ok (.istore_n 3, 1) := by decide +kernel
theorem dX8_addAll_60 : decode cX8_addAll 60 = .ok (.iload_n 3, 1) := by decide +kernel
theorem dX8_addAll_61 : decode cX8_addAll 61 = .ok (.aload_n 2, 1) := by decide +kernel
theorem dX8_addAll_62 : decode cX8_addAll 62 = .ok (.invokevirtual 90, 3) := by decide +kernel
theorem dX8_addAll_65 : decode cX8_addAll 65 = .ok (.if_icmp .ge 21, 3) := by decide +kernel
theorem dX8_addAll_68 : decode cX8_addAll 68 = .ok (.aload_n 0, 1) := by decide +kernel
theorem dX8_addAll_69 : decode cX8_addAll 69 = .ok (.getfield 10, 3) := by decide +kernel
theorem dX8_addAll_72 : decode cX8_addAll 72 = .ok (.getfield 73, 3) := by decide +kernel
theorem dX8_addAll_75 : decode cX8_addAll 75 = .ok (.aload_n 2, 1) := by decide +kernel
theorem dX8_addAll_76 : decode cX8_addAll 76 = .ok (.iload_n 3, 1) := by decide +kernel
theorem dX8_addAll_77 : decode cX8_addAll 77 = .ok (.invokevirtual 101, 3) := by decide +kernel
theorem dX8_addAll_80 : decode cX8_addAll 80 = .ok (.iinc 3 1, 3) := by decide +kernel
theorem dX8_addAll_83 : decode cX8_addAll 83 = .ok (.goto (-23), 3) := by decide +kernel
theorem dX8_addAll_86 : decode cX8_addAll 86 = .ok (.aload_n 2, 1) := by decide +kernel
theorem dX8_addAll_87 : decode cX8_addAll 87 = .ok (.invokevirtual 90, 3) := by decide +kernel
theorem dX8_addAll_90 : decode cX8_addAll 90 = .ok (.ireturn, 1) := by decide +kernel
set_option maxRecDepth 20000 in
theorem ggX8_change_X1_has : GoodIn wsX8_change wsX1_has := goodIn_r _ [7, 8, 76, 77] (by decide +kernel) (by decide +kernel)
set_option maxRecDepth 20000 in
theorem gX8_change_X1_has : GoodIn wsX8_change (wsV RX8 105 RX1 yX1_has wsX1_has) := goodIn_app (goodIn_of _ (by decide +kernel)) ggX8_change_X1_has
set_option maxRecDepth 20000 in
theorem ggX8_change_X8_mayBe : GoodIn wsX8_change wsX8_mayBe := goodIn_r _ [12, 13, 14] (by decide +kernel) (by decide +kernel)
set_option maxRecDepth 20000 in
theorem gX8_change_X8_mayBe : GoodIn wsX8_change (va_wsS RX8 69 yX8_mayBe wsX8_mayBe) := goodIn_app (goodIn_of _ (by decide +kernel)) ggX8_change_X8_mayBe
set_option maxRecDepth 20000 in
theorem ggX8_change_X1_number : GoodIn wsX8_change wsX1_number := goodIn_r _ [18, 19, 20, 21, 22, 6, 23, 8, 76, 77] (by decide +kernel) (by decide +kernel)
set_option maxRecDepth 20000 in
theorem gX8_change_X1_number : GoodIn wsX8_change (wsV RX8 108 RX1 yX1_number wsX1_number) := goodIn_app (goodIn_of _ (by decide +kernel)) ggX8_change_X1_number
set_option maxRecDepth 20000 in
theorem ggX8_change_X2_record : GoodIn wsX8_change wsX2_record := goodIn_r _ [28, 29, 30, 31, 32, 33, 27, 34, 35, 36, 37, 38, 39, 40, 41, 42, 43, 44, 45, 46, 47, 48, 49, 50, 6, 51, 19, 52, 8, 53, 54, 55, 56, 57, 58, 59, 78, 79, 80, 73, 74, 75, 76, 77, 81] (by decide +kernel) (by decide +kernel)
set_option maxRecDepth 20000 in
theorem gX8_change_X2_record : GoodIn wsX8_change (wsV RX8 82 RX2 yX2_record wsX2_record) := goodIn_app (goodIn_of _ (by decide +kernel)) ggX8_change_X2_record
set_option maxRecDepth 20000 in
theorem ggX8_change_X1_put : GoodIn wsX8_change wsX1_put := goodIn_r _ [63, 19, 20, 21, 22, 6, 23, 8, 76, 77] (by decide +kernel) (by decide +kernel)
set_option maxRecDepth 20000 in
theorem gX8_change_X1_put : GoodIn wsX8_change (wsV RX8 112 RX1 yX1_put wsX1_put) := goodIn_app (goodIn_of _ (by decide +kernel)) ggX8_change_X1_put
theorem dX8_change_0 : decode cX8_change 0 = .ok (.aload_n 0, 1) := by decide +kernel
theorem dX8_change_1 : decode cX8_change 1 = .ok (.getfield 10, 3) := by decide +kernel
theorem dX8_change_4 : decode cX8_change 4 = .ok (.getfield 73, 3) := by decide +kernel
theorem dX8_change_7 : decode cX8_change 7 = .ok (.iload_n 1, 1) := by decide +kernel
theorem dX8_change_8 : decode cX8_change 8 = .ok (.invokevirtual 105, 3) := by decide +kernel
theorem dX8_change_11 : decode cX8_change 11 = .ok (.ifCond .ne 5, 3) := by decide +kernel
theorem dX8_change_14 : decode cX8_change 14 = .ok (.iconst (-1), 1) := by decide +kernel
theorem dX8_change_15 : decode cX8_change 15 = .ok (.ireturn, 1) := by decide +kernel
theorem dX8_change_16 : decode cX8_change 16 = .ok (.iload_n 2, 1) := by decide +kernel
theorem dX8_change_17 : decode cX8_change 17 = .ok (.ifCond .lt 8, 3) := by decide +kernel
theorem dX8_change_20 : decode cX8_change 20 = .ok (.iload_n 2, 1) := by decide +kernel
theorem dX8_change_21 : decode cX8_change 21 = .ok (.iconst 4, 1) := by decide +kernel
theorem dX8_change_22 : decode cX8_change 22 = .ok (.if_icmp .lt 6, 3) := by decide +kernel
theorem dX8_change_25 : decode cX8_change 25 = .ok (.bipush (-2), 2) := by decide +kernel
theorem dX8_change_27 : decode cX8_change 27 = .ok (.ireturn, 1) := by decide +kernel
theorem dX8_change_28 : decode cX8_change 28 = .ok (.iload_n 2, 1) := by decide +kernel
theorem dX8_change_29 : decode cX8_change 29 = .ok (.iconst 1, 1) := by decide +kernel
theorem dX8_change_30 : decode cX8_change 30 = .ok (.iadd, 1) := by decide +kernel
theorem dX8_change_31 : decode cX8_change 31 = .ok (.istore 4, 2) := by decide +kernel
theorem dX8_change_33 : decode cX8_change 33 = .ok (.iload 4, 2) := by decide +kernel
theorem dX8_change_35 : decode cX8_change 35 = .ok (.iload_n 3, 1) := by decide +kernel
theorem dX8_change_36 : decode cX8_change 36 = .ok (.invokestatic 69, 3) := by decide +kernel
theorem dX8_change_39 : decode cX8_change 39 = .ok (.ifCond .ne 6, 3) := by decide +kernel
theorem dX8_change_42 : decode cX8_change 42 = .ok (.bipush (-2), 2) := by decide +kernel
theorem dX8_change_44 : decode cX8_change 44 = .ok (.ireturn, 1) := by decide +kernel
theorem dX8_change_45 : decode cX8_change 45 = .ok (.aload_n 0, 1) := by decide +kernel
theorem dX8_change_46 : decode cX8_change 46 = .ok (.getfield 10, 3) := by decide +kernel
theorem dX8_change_49 : decode cX8_change 49 = .ok (.getfield 73, 3) := by decide +kernel
theorem dX8_change_52 : decode cX8_change 52 = .ok (.iload_n 1, 1) := by decide +kernel
theorem dX8_change_53 : decode cX8_change 53 = .ok (.iload 4, 2) := by decide +kernel
theorem dX8_change_55 : decode cX8_change 55 = .ok (.invokevirtual 108, 3) := by decide +kernel
theorem dX8_change_58 : decode cX8_change 58 = .ok (.istore 5, 2) := by decide +kernel
theorem dX8_change_60 : decode cX8_change 60 = .ok (.iload 5, 2) := by decide +kernel
theorem dX8_change_62 : decode cX8_change 62 = .ok (.iload_n 3, 1) := by decide +kernel
theorem dX8_change_63 : decode cX8_change 63 = .ok (.if_icmp .ne 6, 3) := by decide +kernel
theorem dX8_change_66 : decode cX8_change 66 = .ok (.bipush (-5), 2) := by decide +kernel
theorem dX8_change_68 : decode cX8_change 68 = .ok (.ireturn, 1) := by decide +kernel
theorem dX8_change_69 : decode cX8_change 69 = .ok (.aload_n 0, 1) := by decide +kernel
theorem dX8_change_70 : decode cX8_change 70 = .ok (.getfield 22, 3) := by decide +kernel
theorem dX8_change_73 : decode cX8_change 73 = .ok (.aload_n 0, 1) := by decide +kernel
theorem dX8_change_74 : decode cX8_change 74 = .ok (.getfield 10, 3) := by decide +kernel
theorem dX8_change_77 : decode cX8_change 77 = .ok (.invokevirtual 82, 3) := by decide +kernel
theorem dX8_change_80 : decode cX8_change 80 = .ok (.aload_n 0, 1) := by decide +kernel
theorem dX8_change_81 : decode cX8_change 81 = .ok (.getfield 10, 3) := by decide +kernel
theorem dX8_change_84 : decode cX8_change 84 = .ok (.getfield 73, 3) := by decide +kernel
theorem dX8_change_87 : decode cX8_change 87 = .ok (.iload_n 1, 1) := by decide +kernel
theorem dX8_change_88 : decode cX8_change 88 = .ok (.iload 4, 2) := by decide +kernel
theorem dX8_change_90 : decode cX8_change 90 = .ok (.iload_n 3, 1) := by decide +kernel
theorem dX8_change_91 : decode cX8_change 91 = .ok (.invokevirtual 112, 3) := by decide +kernel
theorem dX8_change_94 : decode cX8_change 94 = .ok (.iload 5, 2) := by decide +kernel
theorem dX8_change_96 : decode cX8_change 96 = .ok (.ireturn, 1) := by decide +kernel
set_option maxRecDepth 20000 in
theorem ggX8_pin_X8_pinFault : GoodIn wsX8_pin wsX8_pinFault := goodIn_r _ [7, 1, 8, 9, 10, 11, 12, 13, 14, 15, 6, 16, 17, 18, 19, 20, 21, 22, 23, 24, 25, 26, 27, 28, 29, 30, 31, 32, 33, 34, 35, 36, 37, 38, 39, 40, 188, 189, 190, 191, 192, 193, 194, 195, 196, 197, 198, 199, 200, 201, 202] (by decide +kernel) (by decide +kernel)
set_option maxRecDepth 20000 in
theorem gX8_pin_X8_pinFault : GoodIn wsX8_pin (wsV RX8 116 RX8 yX8_pinFault wsX8_pinFault) := goodIn_app (goodIn_of _ (by decide +kernel)) ggX8_pin_X8_pinFault
set_option maxRecDepth 20000 in
theorem ggX8_pin_X7_slotOf : GoodIn wsX8_pin wsX7_slotOf := goodIn_r _ [40, 32, 28, 29, 30, 20, 31, 202] (by decide +kernel) (by decide +kernel)
set_option maxRecDepth 20000 in
theorem gX8_pin_X7_slotOf : GoodIn wsX8_pin (wsV RX8 123 RX7 yX7_slotOf wsX7_slotOf) := goodIn_app (goodIn_of _ (by decide +kernel)) ggX8_pin_X7_slotOf
set_option maxRecDepth 20000 in
theorem ggX8_pin_X8_slot : GoodIn wsX8_pin wsX8_slot := goodIn_r _ [27] (by decide +kernel) (by decide +kernel)
set_option maxRecDepth 20000 in
theorem gX8_pin_X8_slot : GoodIn wsX8_pin (va_wsS RX8 127 yX8_slot wsX8_slot) := goodIn_app (goodIn_of _ (by decide +kernel)) ggX8_pin_X8_slot
set_option maxRecDepth 20000 in
theorem ggX8_pin_X2_record : GoodIn wsX8_pin wsX2_record := goodIn_r _ [47, 48, 49, 50, 51, 52, 46, 53, 54, 55, 56, 57, 58, 59, 60, 61, 62, 63, 64, 65, 66, 67, 68, 69, 11, 70, 71, 72, 13, 73, 74, 75, 20, 76, 32, 77, 203, 204, 205, 197, 198, 199, 200, 201, 202] (by decide +kernel) (by decide +kernel)
set_option maxRecDepth 20000 in
theorem gX8_pin_X2_record : GoodIn wsX8_pin (wsV RX8 82 RX2 yX2_record wsX2_record) := goodIn_app (goodIn_of _ (by decide +kernel)) ggX8_pin_X2_record
set_option maxRecDepth 20000 in
theorem ggX8_pin_X7_takeOff : GoodIn wsX8_pin wsX7_takeOff := goodIn_r _ [81, 37, 38, 39, 20, 40, 32, 28, 29, 30, 31, 26, 6, 27, 82, 83, 84, 85, 202] (by decide +kernel) (by decide +kernel)
set_option maxRecDepth 20000 in
theorem gX8_pin_X7_takeOff : GoodIn wsX8_pin (wsV RX8 130 RX7 yX7_takeOff wsX7_takeOff) := goodIn_app (goodIn_of _ (by decide +kernel)) ggX8_pin_X7_takeOff
set_option maxRecDepth 20000 in
theorem ggX8_pin_X7_putIn : GoodIn wsX8_pin wsX7_putIn := goodIn_r _ [89, 26, 6, 27, 28, 29, 30, 20, 31, 32, 82, 83, 84, 85, 202] (by decide +kernel) (by decide +kernel)
set_option maxRecDepth 20000 in
theorem gX8_pin_X7_putIn : GoodIn wsX8_pin (wsV RX8 134 RX7 yX7_putIn wsX7_putIn) := goodIn_app (goodIn_of _ (by decide +kernel)) ggX8_pin_X7_putIn
set_option maxRecDepth 20000 in
theorem ggX8_pin_X1_number : GoodIn wsX8_pin wsX1_number := goodIn_r _ [93, 71, 94, 95, 96, 11, 97, 13, 200, 201] (by decide +kernel) (by decide +kernel)
set_option maxRecDepth 20000 in
theorem gX8_pin_X1_number : GoodIn wsX8_pin (wsV RX8 108 RX1 yX1_number wsX1_number) := goodIn_app (goodIn_of _ (by decide +kernel)) ggX8_pin_X1_number
set_option maxRecDepth 20000 in
theorem ggX8_pin_X8_breaksNow : GoodIn wsX8_pin wsX8_breaksNow := goodIn_r _ [101, 102, 1, 103, 104, 105, 106, 107, 108, 109, 110, 111, 112, 113, 114, 115, 116, 11, 117, 13, 118, 119, 120, 58, 121, 62, 122, 29, 30, 20, 31, 32, 123, 9, 10, 12, 124, 125, 126, 127, 128, 129, 130, 131, 132, 91, 92, 93, 71, 94, 95, 96, 97, 133, 6, 134, 135, 136, 137, 138, 139, 140, 141, 142, 143, 144, 145, 146, 147, 148, 149, 150, 151, 152, 153, 154, 155, 156, 157, 158, 159, 160, 161, 162, 163, 164, 165, 166, 167, 168, 169, 170, 171, 172, 173, 174, 175, 176, 177, 178, 179, 180, 181, 182, 183, 184, 185, 186, 187, 188, 189, 190, 191, 192, 193, 194, 195, 196, 197, 198, 199, 206, 207, 208, 209, 210, 211, 212, 213, 214, 215, 200, 201, 202] (by decide +kernel) (by decide +kernel)
set_option maxRecDepth 20000 in
theorem gX8_pin_X8_breaksNow : GoodIn wsX8_pin (wsV RX8 137 RX8 yX8_breaksNow wsX8_breaksNow) := goodIn_app (goodIn_of _ (by decide +kernel)) ggX8_pin_X8_breaksNow
theorem dX8_pin_0 : decode cX8_pin 0 = .ok (.aload_n 0, 1) := by decide +kernel
theorem dX8_pin_1 : decode cX8_pin 1 = .ok (.iload_n 1, 1) := by decide +kernel
theorem dX8_pin_2 : decode cX8_pin 2 = .ok (.iload_n 2, 1) := by decide +kernel
theorem dX8_pin_3 : decode cX8_pin 3 = .ok (.iload_n 3, 1) := by decide +kernel
theorem dX8_pin_4 : decode cX8_pin 4 = .ok (.invokevirtual 116, 3) := by decide +kernel
theorem dX8_pin_7 : decode cX8_pin 7 = .ok (.istore 4, 2) := by decide +kernel
theorem dX8_pin_9 : decode cX8_pin 9 = .ok (.iload 4, 2) := by decide +kernel
theorem dX8_pin_11 : decode cX8_pin 11 = .ok (.ifCond .eq 6, 3) := by decide +kernel
theorem dX8_pin_14 : decode cX8_pin 14 = .ok (.iload 4, 2) := by decide +kernel
theorem dX8_pin_16 : decode cX8_pin 16 = .ok (.ireturn, 1) := by decide +kernel
theorem dX8_pin_17 : decode cX8_pin 17 = .ok (.aload_n 0, 1) := by decide +kernel
theorem dX8_pin_18 : decode cX8_pin 18 = .ok (.getfield 10, 3) := by decide +kernel
theorem dX8_pin_21 : decode cX8_pin 21 = .ok (.getfield 120, 3) := by decide +kernel
theorem dX8_pin_24 : decode cX8_pin 24 = .ok (.iload_n 1, 1) := by decide +kernel
theorem dX8_pin_25 : decode cX8_pin 25 = .ok (.invokevirtual 123, 3) := by decide +kernel
theorem dX8_pin_28 : decode cX8_pin 28 = .ok (.iload_n 2, 1) := by decide +kernel
theorem dX8_pin_29 : decode cX8_pin 29 = .ok (.iload_n 3, 1) := by decide +kernel
theorem dX8_pin_30 : decode cX8_pin 30 = .ok (.invokestatic 127, 3) := by decide +kernel
theorem dX8_pin_33 : decode cX8_pin 33 = .ok (.if_icmp .ne 6, 3) := by decide +kernel
theorem dX8_pin_36 : decode cX8_pin 36 = .ok (.bipush (-5), 2) := by decide +kernel
theorem dX8_pin_38 : decode cX8_pin 38 = .ok (.ireturn, 1) := by decide +kernel
theorem dX8_pin_39 : decode cX8_pin 39 = .ok (.aload_n 0, 1) := by decide +kernel
theorem dX8_pin_40 : decode cX8_pin 40 = .ok (.getfield 22, 3) := by decide +kernel
theorem dX8_pin_43 : decode cX8_pin 43 = .ok (.aload_n 0, 1) := by decide +kernel
theorem dX8_pin_44 : decode cX8_pin 44 = .ok (.getfield 10, 3) := by decide +kernel
theorem dX8_pin_47 : decode cX8_pin 47 = .ok (.invokevirtual 82, 3) := by decide +kernel
theorem dX8_pin_50 : decode cX8_pin 50 = .ok (.aload_n 0, 1) := by decide +kernel
theorem dX8_pin_51 : decode cX8_pin 51 = .ok (.getfield 10, 3) := by decide +kernel
theorem dX8_pin_54 : decode cX8_pin 54 = .ok (.getfield 120, 3) := by decide +kernel
theorem dX8_pin_57 : decode cX8_pin 57 = .ok (.iload_n 1, 1) := by decide +kernel
theorem dX8_pin_58 : decode cX8_pin 58 = .ok (.invokevirtual 130, 3) := by decide +kernel
theorem dX8_pin_61 : decode cX8_pin 61 = .ok (.aload_n 0, 1) := by decide +kernel
theorem dX8_pin_62 : decode cX8_pin 62 = .ok (.getfield 10, 3) := by decide +kernel
theorem dX8_pin_65 : decode cX8_pin 65 = .ok (.getfield 120, 3) := by decide +kernel
theorem dX8_pin_68 : decode cX8_pin 68 = .ok (.iload_n 1, 1) := by decide +kernel
theorem dX8_pin_69 : decode cX8_pin 69 = .ok (.iload_n 2, 1) := by decide +kernel
theorem dX8_pin_70 : decode cX8_pin 70 = .ok (.iload_n 3, 1) := by decide +kernel
theorem dX8_pin_71 : decode cX8_pin 71 = .ok (.invokevirtual 134, 3) := by decide +kernel
theorem dX8_pin_74 : decode cX8_pin 74 = .ok (.aload_n 0, 1) := by decide +kernel
theorem dX8_pin_75 : decode cX8_pin 75 = .ok (.aload_n 0, 1) := by decide +kernel
theorem dX8_pin_76 : decode cX8_pin 76 = .ok (.getfield 10, 3) := by decide +kernel
theorem dX8_pin_79 : decode cX8_pin 79 = .ok (.getfield 73, 3) := by decide +kernel
theorem dX8_pin_82 : decode cX8_pin 82 = .ok (.iload_n 1, 1) := by decide +kernel
theorem dX8_pin_83 : decode cX8_pin 83 = .ok (.iconst 0, 1) := by decide +kernel
theorem dX8_pin_84 : decode cX8_pin 84 = .ok (.invokevirtual 108, 3) := by decide +kernel
theorem dX8_pin_87 : decode cX8_pin 87 = .ok (.invokevirtual 137, 3) := by decide +kernel
theorem dX8_pin_90 : decode cX8_pin 90 = .ok (.ireturn, 1) := by decide +kernel
set_option maxRecDepth 20000 in
theorem ggX8_unpin_X1_has : GoodIn wsX8_unpin wsX1_has := goodIn_r _ [7, 8, 176, 177] (by decide +kernel) (by decide +kernel)
set_option maxRecDepth 20000 in
theorem gX8_unpin_X1_has : GoodIn wsX8_unpin (wsV RX8 105 RX1 yX1_has wsX1_has) := goodIn_app (goodIn_of _ (by decide +kernel)) ggX8_unpin_X1_has
set_option maxRecDepth 20000 in
theorem ggX8_unpin_X7_slotOf : GoodIn wsX8_unpin wsX7_slotOf := goodIn_r _ [13, 14, 15, 16, 17, 12, 18, 178] (by decide +kernel) (by decide +kernel)
set_option maxRecDepth 20000 in
theorem gX8_unpin_X7_slotOf : GoodIn wsX8_unpin (wsV RX8 123 RX7 yX7_slotOf wsX7_slotOf) := goodIn_app (goodIn_of _ (by decide +kernel)) ggX8_unpin_X7_slotOf
set_option maxRecDepth 20000 in
theorem ggX8_unpin_X2_record : GoodIn wsX8_unpin wsX2_record := goodIn_r _ [23, 24, 25, 26, 27, 28, 22, 29, 30, 31, 32, 33, 34, 35, 36, 37, 38, 39, 40, 41, 42, 43, 44, 45, 6, 46, 47, 48, 8, 49, 50, 51, 12, 52, 14, 53, 179, 180, 181, 173, 174, 175, 176, 177, 178] (by decide +kernel) (by decide +kernel)
set_option maxRecDepth 20000 in
theorem gX8_unpin_X2_record : GoodIn wsX8_unpin (wsV RX8 82 RX2 yX2_record wsX2_record) := goodIn_app (goodIn_of _ (by decide +kernel)) ggX8_unpin_X2_record
set_option maxRecDepth 20000 in
theorem ggX8_unpin_X7_takeOff : GoodIn wsX8_unpin wsX7_takeOff := goodIn_r _ [57, 58, 10, 11, 12, 13, 14, 15, 16, 17, 18, 59, 60, 61, 62, 63, 64, 65, 178] (by decide +kernel) (by decide +kernel)
set_option maxRecDepth 20000 in
theorem gX8_unpin_X7_takeOff : GoodIn wsX8_unpin (wsV RX8 130 RX7 yX7_takeOff wsX7_takeOff) := goodIn_app (goodIn_of _ (by decide +kernel)) ggX8_unpin_X7_takeOff
set_option maxRecDepth 20000 in
theorem ggX8_unpin_X1_number : GoodIn wsX8_unpin wsX1_number := goodIn_r _ [69, 47, 70, 71, 72, 6, 73, 8, 176, 177] (by decide +kernel) (by decide +kernel)
set_option maxRecDepth 20000 in
theorem gX8_unpin_X1_number : GoodIn wsX8_unpin (wsV RX8 108 RX1 yX1_number wsX1_number) := goodIn_app (goodIn_of _ (by decide +kernel)) ggX8_unpin_X1_number
set_option maxRecDepth 20000 in
theorem ggX8_unpin_X8_breaksNow : GoodIn wsX8_unpin wsX8_breaksNow := goodIn_r _ [77, 78, 1, 79, 80, 81, 82, 83, 84, 85, 86, 87, 88, 89, 90, 91, 92, 6, 93, 8, 94, 95, 96, 34, 97, 38, 98, 16, 17, 12, 18, 14, 99, 4, 5, 7, 100, 101, 102, 103, 104, 105, 106, 107, 108, 67, 68, 69, 47, 70, 71, 72, 73, 109, 60, 110, 111, 112, 113, 114, 115, 116, 117, 118, 119, 120, 121, 122, 123, 124, 125, 126, 127, 128, 129, 130, 131, 132, 133, 134, 135, 136, 137, 138, 139, 140, 141, 142, 143, 144, 145, 146, 147, 148, 149, 150, 151, 152, 153, 154, 155, 156, 157, 158, 159, 160, 161, 162, 163, 164, 165, 166, 167, 168, 169, 170, 171, 172, 173, 174, 175, 182, 183, 184, 185, 186, 187, 188, 189, 190, 191, 176, 177, 178] (by decide +kernel) (by decide +kernel)
set_option maxRecDepth 20000 in
theorem gX8_unpin_X8_breaksNow : GoodIn wsX8_unpin (wsV RX8 137 RX8 yX8_breaksNow wsX8_breaksNow) := goodIn_app (goodIn_of _ (by decide +kernel)) ggX8_unpin_X8_breaksNow
theorem dX8_unpin_0 : decode cX8_unpin 0 = .ok (.aload_n 0, 1) := by decide +kernel
theorem dX8_unpin_1 : decode cX8_unpin 1 = .ok (.getfield 10, 3) := by decide +kernel
theorem dX8_unpin_4 : decode cX8_unpin 4 = .ok (.getfield 73, 3) := by decide +kernel
theorem dX8_unpin_7 : decode cX8_unpin 7 = .ok (.iload_n 1, 1) := by decide +kernel
theorem dX8_unpin_8 : decode cX8_unpin 8 = .ok (.invokevirtual 105, 3) := by decide +kernel
theorem dX8_unpin_11 : decode cX8_unpin 11 = .ok (.ifCond .ne 5, 3) := by decide +kernel
theorem dX8_unpin_14 : decode cX8_unpin 14 = .ok (.iconst (-1), 1) := by decide +kernel
theorem dX8_unpin_15 : decode cX8_unpin 15 = .ok (.ireturn, 1) := by decide +kernel
theorem dX8_unpin_16 : decode cX8_unpin 16 = .ok (.aload_n 0, 1) := by decide +kernel
theorem dX8_unpin_17 : decode cX8_unpin 17 = .ok (.getfield 10, 3) := by decide +kernel
theorem dX8_unpin_20 : decode cX8_unpin 20 = .ok (.getfield 120, 3) := by decide +kernel
theorem dX8_unpin_23 : decode cX8_unpin 23 = .ok (.iload_n 1, 1) := by decide +kernel
theorem dX8_unpin_24 : decode cX8_unpin 24 = .ok (.invokevirtual 123, 3) := by decide +kernel
theorem dX8_unpin_27 : decode cX8_unpin 27 = .ok (.bipush (-5), 2) := by decide +kernel
theorem dX8_unpin_29 : decode cX8_unpin 29 = .ok (.if_icmp .ne 6, 3) := by decide +kernel
theorem dX8_unpin_32 : decode cX8_unpin 32 = .ok (.bipush (-5), 2) := by decide +kernel
theorem dX8_unpin_34 : decode cX8_unpin 34 = .ok (.ireturn, 1) := by decide +kernel
theorem dX8_unpin_35 : decode cX8_unpin 35 = .ok (.aload_n 0, 1) := by decide +kernel
theorem dX8_unpin_36 : decode cX8_unpin 36 = .ok (.getfield 22, 3) := by decide +kernel
theorem dX8_unpin_39 : decode cX8_unpin 39 = .ok (.aload_n 0, 1) := by decide +kernel
theorem dX8_unpin_40 : decode cX8_unpin 40 = .ok (.getfield 10, 3) := by decide +kernel
theorem dX8_unpin_43 : decode cX8_unpin 43 = .ok (.invokevirtual 82, 3) := by decide +kernel
theorem dX8_unpin_46 : decode cX8_unpin 46 = .ok (.aload_n 0, 1) := by decide +kernel
theorem dX8_unpin_47 : decode cX8_unpin 47 = .ok (.getfield 10, 3) := by decide +kernel
theorem dX8_unpin_50 : decode cX8_unpin 50 = .ok (.getfield 120, 3) := by decide +kernel
theorem dX8_unpin_53 : decode cX8_unpin 53 = .ok (.iload_n 1, 1) := by decide +kernel
theorem dX8_unpin_54 : decode cX8_unpin 54 = .ok (.invokevirtual 130, 3) := by decide +kernel
theorem dX8_unpin_57 : decode cX8_unpin 57 = .ok (.aload_n 0, 1) := by decide +kernel
theorem dX8_unpin_58 : decode cX8_unpin 58 = .ok (.aload_n 0, 1) := by decide +kernel
theorem dX8_unpin_59 : decode cX8_unpin 59 = .ok (.getfield 10, 3) := by decide +kernel
theorem dX8_unpin_62 : decode cX8_unpin 62 = .ok (.getfield 73, 3) := by decide +kernel
theorem dX8_unpin_65 : decode cX8_unpin 65 = .ok (.iload_n 1, 1) := by decide +kernel
theorem dX8_unpin_66 : decode cX8_unpin 66 = .ok (.iconst 0, 1) := by decide +kernel
theorem dX8_unpin_67 : decode cX8_unpin 67 = .ok (.invokevirtual 108, 3) := by decide +kernel
theorem dX8_unpin_70 : decode cX8_unpin 70 = .ok (.invokevirtual 137, 3) := by decide +kernel
theorem dX8_unpin_73 : decode cX8_unpin 73 = .ok (.ireturn, 1) := by decide +kernel
set_option maxRecDepth 20000 in
theorem ggX8_swap_X1_has : GoodIn wsX8_swap wsX1_has := goodIn_r _ [7, 8, 172, 173] (by decide +kernel) (by decide +kernel)
set_option maxRecDepth 20000 in
theorem gX8_swap_X1_has : GoodIn wsX8_swap (wsV RX8 105 RX1 yX1_has wsX1_has) := goodIn_app (goodIn_of _ (by decide +kernel)) ggX8_swap_X1_has
set_option maxRecDepth 20000 in
theorem ggX8_swap_X7_slotOf : GoodIn wsX8_swap wsX7_slotOf := goodIn_r _ [13, 14, 15, 16, 17, 12, 18, 174] (by decide +kernel) (by decide +kernel)
set_option maxRecDepth 20000 in
theorem gX8_swap_X7_slotOf : GoodIn wsX8_swap (wsV RX8 123 RX7 yX7_slotOf wsX7_slotOf) := goodIn_app (goodIn_of _ (by decide +kernel)) ggX8_swap_X7_slotOf
set_option maxRecDepth 20000 in
theorem ggX8_swap_X2_record : GoodIn wsX8_swap wsX2_record := goodIn_r _ [23, 24, 25, 26, 27, 28, 22, 29, 30, 31, 32, 33, 34, 35, 36, 37, 38, 39, 40, 41, 42, 43, 44, 45, 6, 46, 47, 48, 8, 49, 50, 51, 12, 52, 14, 53, 175, 176, 177, 169, 170, 171, 172, 173, 174] (by decide +kernel) (by decide +kernel)
set_option maxRecDepth 20000 in
theorem gX8_swap_X2_record : GoodIn wsX8_swap (wsV RX8 82 RX2 yX2_record wsX2_record) := goodIn_app (goodIn_of _ (by decide +kernel)) ggX8_swap_X2_record
set_option maxRecDepth 20000 in
theorem ggX8_swap_X7_exchange : GoodIn wsX8_swap wsX7_exchange := goodIn_r _ [57, 15, 16, 17, 12, 18, 14, 58, 59, 60, 61, 174] (by decide +kernel) (by decide +kernel)
set_option maxRecDepth 20000 in
theorem gX8_swap_X7_exchange : GoodIn wsX8_swap (wsV RX8 140 RX7 yX7_exchange wsX7_exchange) := goodIn_app (goodIn_of _ (by decide +kernel)) ggX8_swap_X7_exchange
set_option maxRecDepth 20000 in
theorem ggX8_swap_X8_breaksNow : GoodIn wsX8_swap wsX8_breaksNow := goodIn_r _ [66, 67, 1, 68, 69, 70, 71, 72, 73, 74, 75, 76, 77, 78, 79, 80, 81, 6, 82, 8, 83, 84, 85, 34, 86, 38, 87, 16, 17, 12, 18, 14, 88, 4, 5, 7, 89, 90, 91, 92, 93, 94, 95, 96, 97, 98, 99, 100, 47, 101, 102, 103, 104, 105, 65, 106, 107, 108, 109, 110, 111, 112, 113, 114, 115, 116, 117, 118, 119, 120, 121, 122, 123, 124, 125, 126, 127, 128, 129, 130, 131, 132, 133, 134, 135, 136, 137, 138, 139, 140, 141, 142, 143, 144, 145, 146, 147, 148, 149, 150, 151, 152, 153, 154, 155, 156, 157, 158, 159, 160, 161, 162, 163, 164, 165, 166, 167, 168, 169, 170, 171, 178, 179, 180, 181, 182, 183, 184, 185, 186, 187, 172, 173, 174] (by decide +kernel) (by decide +kernel)
set_option maxRecDepth 20000 in
theorem gX8_swap_X8_breaksNow : GoodIn wsX8_swap (wsV RX8 137 RX8 yX8_breaksNow wsX8_breaksNow) := goodIn_app (goodIn_of _ (by decide +kernel)) ggX8_swap_X8_breaksNow
theorem dX8_swap_0 : decode cX8_swap 0 = .ok (.aload_n 0, 1) := by decide +kernel
theorem dX8_swap_1 : decode cX8_swap 1 = .ok (.getfield 10, 3) := by decide +kernel
theorem dX8_swap_4 : decode cX8_swap 4 = .ok (.getfield 73, 3) := by decide +kernel
theorem dX8_swap_7 : decode cX8_swap 7 = .ok (.iload_n 1, 1) := by decide +kernel
theorem dX8_swap_8 : decode cX8_swap 8 = .ok (.invokevirtual 105, 3) := by decide +kernel
theorem dX8_swap_11 : decode cX8_swap 11 = .ok (.ifCond .eq 17, 3) := by decide +kernel
theorem dX8_swap_14 : decode cX8_swap 14 = .ok (.aload_n 0, 1) := by decide +kernel
theorem dX8_swap_15 : decode cX8_swap 15 = .ok (.getfield 10, 3) := by decide +kernel
theorem dX8_swap_18 : decode cX8_swap 18 = .ok (.getfield 73, 3) := by decide +kernel
theorem dX8_swap_21 : decode cX8_swap 21 = .ok (.iload_n 2, 1) := by decide +kernel
theorem dX8_swap_22 : decode cX8_swap 22 = .ok (.invokevirtual 105, 3) := by decide +kernel
theorem dX8_swap_25 : decode cX8_swap 25 = .ok (.ifCond .ne 5, 3) := by decide +kernel
theorem dX8_swap_28 : decode cX8_swap 28 = .ok (.iconst (-1), 1) := by decide +kernel
theorem dX8_swap_29 : decode cX8_swap 29 = .ok (.ireturn, 1) := by decide +kernel
theorem dX8_swap_30 : decode cX8_swap 30 = .ok (.iload_n 1, 1) := by decide +kernel
theorem dX8_swap_31 : decode cX8_swap 31 = .ok (.iload_n 2, 1) := by decide +kernel
theorem dX8_swap_32 : decode cX8_swap 32 = .ok (.if_icmp .ne 6, 3) := by decide +kernel
theorem dX8_swap_35 : decode cX8_swap 35 = .ok (.bipush (-2), 2) := by decide +kernel
theorem dX8_swap_37 : decode cX8_swap 37 = .ok (.ireturn, 1) := by decide +kernel
theorem dX8_swap_38 : decode cX8_swap 38 = .ok (.aload_n 0, 1) := by decide +kernel
theorem dX8_swap_39 : decode cX8_swap 39 = .ok (.getfield 10, 3) := by decide +kernel
theorem dX8_swap_42 : decode cX8_swap 42 = .ok (.getfield 120, 3) := by decide +kernel
theorem dX8_swap_45 : decode cX8_swap 45 = .ok (.iload_n 1, 1) := by decide +kernel
theorem dX8_swap_46 : decode cX8_swap 46 = .ok (.invokevirtual 123, 3) := by decide +kernel
theorem dX8_swap_49 : decode cX8_swap 49 = .ok (.istore_n 3, 1) := by decide +kernel
theorem dX8_swap_50 : decode cX8_swap 50 = .ok (.aload_n 0, 1) := by decide +kernel
theorem dX8_swap_51 : decode cX8_swap 51 = .ok (.getfield 10, 3) := by decide +kernel
theorem dX8_swap_54 : decode cX8_swap 54 = .ok (.getfield 120, 3) := by decide +kernel
theorem dX8_swap_57 : decode cX8_swap 57 = .ok (.iload_n 2, 1) := by decide +kernel
theorem dX8_swap_58 : decode cX8_swap 58 = .ok (.invokevirtual 123, 3) := by decide +kernel
theorem dX8_swap_61 : decode cX8_swap 61 = .ok (.istore 4, 2) := by decide +kernel
theorem dX8_swap_63 : decode cX8_swap 63 = .ok (.iload_n 3, 1) := by decide +kernel
theorem dX8_swap_64 : decode cX8_swap 64 = .ok (.bipush (-5), 2) := by decide +kernel
theorem dX8_swap_66 : decode cX8_swap 66 = .ok (.if_icmp .eq 10, 3) := by decide +kernel
theorem dX8_swap_69 : decode cX8_swap 69 = .ok (.iload 4, 2) := by decide +kernel
theorem dX8_swap_71 : decode cX8_swap 71 = .ok (.bipush (-5), 2) := by decide +kernel
theorem dX8_swap_73 : decode cX8_swap 73 = .ok (.if_icmp .ne 6, 3) := by decide +kernel
theorem dX8_swap_76 : decode cX8_swap 76 = .ok (.bipush (-4), 2) := by decide +kernel
theorem dX8_swap_78 : decode cX8_swap 78 = .ok (.ireturn, 1) := by decide +kernel
theorem dX8_swap_79 : decode cX8_swap 79 = .ok (.aload_n 0, 1) := by decide +kernel
theorem dX8_swap_80 : decode cX8_swap 80 = .ok (.getfield 22, 3) := by decide +kernel
theorem dX8_swap_83 : decode cX8_swap 83 = .ok (.aload_n 0, 1) := by decide +kernel
theorem dX8_swap_84 : decode cX8_swap 84 = .ok (.getfield 10, 3) := by decide +kernel
theorem dX8_swap_87 : decode cX8_swap 87 = .ok (.invokevirtual 82, 3) := by decide +kernel
theorem dX8_swap_90 : decode cX8_swap 90 = .ok (.aload_n 0, 1) := by decide +kernel
theorem dX8_swap_91 : decode cX8_swap 91 = .ok (.getfield 10, 3) := by decide +kernel
theorem dX8_swap_94 : decode cX8_swap 94 = .ok (.getfield 120, 3) := by decide +kernel
theorem dX8_swap_97 : decode cX8_swap 97 = .ok (.iload_n 3, 1) := by decide +kernel
theorem dX8_swap_98 : decode cX8_swap 98 = .ok (.iload 4, 2) := by decide +kernel
theorem dX8_swap_100 : decode cX8_swap 100 = .ok (.invokevirtual 140, 3) := by decide +kernel
theorem dX8_swap_103 : decode cX8_swap 103 = .ok (.aload_n 0, 1) := by decide +kernel
theorem dX8_swap_104 : decode cX8_swap 104 = .ok (.iconst (-1), 1) := by decide +kernel
theorem dX8_swap_105 : decode cX8_swap 105 = .ok (.invokevirtual 137, 3) := by decide +kernel
theorem dX8_swap_108 : decode cX8_swap 108 = .ok (.ireturn, 1) := by decide +kernel
set_option maxRecDepth 20000 in
theorem ggX8_straighten_X8_isThread : GoodIn wsX8_straighten wsX8_isThread := goodIn_r _ [8] (by decide +kernel) (by decide +kernel)
set_option maxRecDepth 20000 in
theorem gX8_straighten_X8_isThread : GoodIn wsX8_straighten (va_wsS RX8 65 yX8_isThread wsX8_isThread) := goodIn_app (goodIn_of _ (by decide +kernel)) ggX8_straighten_X8_isThread
set_option maxRecDepth 20000 in
theorem ggX8_straighten_X3_read : GoodIn wsX8_straighten wsX3_read := goodIn_r _ [13, 14, 15, 16, 17, 18, 19, 20, 21, 22, 23, 24, 25, 26, 27, 28, 29, 30, 31, 32, 33, 34, 35, 36, 37, 38, 39, 40, 41, 42, 43, 44, 12, 45, 46, 47, 48, 49, 50, 51, 52, 53, 54, 55, 56, 57, 58, 6, 7, 8, 59, 60, 61, 62, 63, 64, 65, 66, 67, 68, 69, 70, 71, 179, 180, 181, 182, 183, 184, 185, 186, 187, 188, 176, 177, 178, 189, 190, 191] (by decide +kernel) (by decide +kernel)
set_option maxRecDepth 20000 in
theorem gX8_straighten_X3_read : GoodIn wsX8_straighten (wsV RX8 144 RX3 yX3_read wsX3_read) := goodIn_app (goodIn_of _ (by decide +kernel)) ggX8_straighten_X3_read
set_option maxRecDepth 20000 in
theorem ggX8_straighten_X5_gather : GoodIn wsX8_straighten wsX5_gather := goodIn_r _ [76, 77, 78, 79, 80, 81, 82, 83, 84, 12, 85, 14, 86, 87, 88, 89, 15, 50, 51, 52, 23, 53, 54, 55, 56, 57, 58, 25, 90, 91, 92, 93, 94, 95, 96, 97, 46, 98, 99, 100, 101, 102, 103, 104, 105, 106, 107, 108, 109, 47, 192, 193, 194, 195, 196, 197, 198, 179, 180, 181, 182, 183, 184, 185, 186, 187, 188, 189, 190] (by decide +kernel) (by decide +kernel)
set_option maxRecDepth 20000 in
theorem gX8_straighten_X5_gather : GoodIn wsX8_straighten (wsV RX8 147 RX5 yX5_gather wsX5_gather) := goodIn_app (goodIn_of _ (by decide +kernel)) ggX8_straighten_X5_gather
set_option maxRecDepth 20000 in
theorem ggX8_straighten_X5_sort : GoodIn wsX8_straighten wsX5_sort := goodIn_r _ [113, 77, 114, 115, 116, 117, 75, 118, 80, 79, 119, 120, 121, 122, 192, 193, 194, 195, 196, 197, 198] (by decide +kernel) (by decide +kernel)
set_option maxRecDepth 20000 in
theorem gX8_straighten_X5_sort : GoodIn wsX8_straighten (wsV RX8 151 RX5 yX5_sort wsX5_sort) := goodIn_app (goodIn_of _ (by decide +kernel)) ggX8_straighten_X5_sort
set_option maxRecDepth 20000 in
theorem ggX8_straighten_X5_moved : GoodIn wsX8_straighten wsX5_moved := goodIn_r _ [126, 77, 114, 119, 120, 121, 75, 122, 192, 193, 194, 195, 196, 197, 198] (by decide +kernel) (by decide +kernel)
set_option maxRecDepth 20000 in
theorem gX8_straighten_X5_moved : GoodIn wsX8_straighten (wsV RX8 154 RX5 yX5_moved wsX5_moved) := goodIn_app (goodIn_of _ (by decide +kernel)) ggX8_straighten_X5_moved
set_option maxRecDepth 20000 in
theorem ggX8_straighten_X2_record : GoodIn wsX8_straighten wsX2_record := goodIn_r _ [131, 132, 133, 134, 135, 136, 130, 137, 138, 139, 140, 141, 29, 142, 143, 144, 31, 145, 146, 147, 148, 149, 150, 151, 23, 152, 54, 153, 25, 154, 155, 156, 35, 157, 37, 158, 199, 200, 201, 176, 177, 178, 189, 190, 191] (by decide +kernel) (by decide +kernel)
set_option maxRecDepth 20000 in
theorem gX8_straighten_X2_record : GoodIn wsX8_straighten (wsV RX8 82 RX2 yX2_record wsX2_record) := goodIn_app (goodIn_of _ (by decide +kernel)) ggX8_straighten_X2_record
set_option maxRecDepth 20000 in
theorem ggX8_straighten_X5_putOn : GoodIn wsX8_straighten wsX5_putOn := goodIn_r _ [162, 77, 81, 79, 114, 119, 120, 121, 75, 122, 163, 164, 165, 35, 166, 37, 192, 193, 194, 195, 196, 197, 198, 191] (by decide +kernel) (by decide +kernel)
set_option maxRecDepth 20000 in
theorem gX8_straighten_X5_putOn : GoodIn wsX8_straighten (wsV RX8 157 RX5 yX5_putOn wsX5_putOn) := goodIn_app (goodIn_of _ (by decide +kernel)) ggX8_straighten_X5_putOn
theorem dX8_straighten_0 : decode cX8_straighten 0 = .ok (.iload_n 1, 1) := by decide +kernel
theorem dX8_straighten_1 : decode cX8_straighten 1 = .ok (.invokestatic 65, 3) := by decide +kernel
theorem dX8_straighten_4 : decode cX8_straighten 4 = .ok (.ifCond .ne 5, 3) := by decide +kernel
theorem dX8_straighten_7 : decode cX8_straighten 7 = .ok (.iconst (-1), 1) := by decide +kernel
theorem dX8_straighten_8 : decode cX8_straighten 8 = .ok (.ireturn, 1) := by decide +kernel
theorem dX8_straighten_9 : decode cX8_straighten 9 = .ok (.aload_n 0, 1) := by decide +kernel
theorem dX8_straighten_10 : decode cX8_straighten 10 = .ok (.getfield 43, 3) := by decide +kernel
theorem dX8_straighten_13 : decode cX8_straighten 13 = .ok (.aload_n 0, 1) := by decide +kernel
theorem dX8_straighten_14 : decode cX8_straighten 14 = .ok (.getfield 10, 3) := by decide +kernel
theorem dX8_straighten_17 : decode cX8_straighten 17 = .ok (.aload_n 0, 1) := by decide +kernel
theorem dX8_straighten_18 : decode cX8_straighten 18 = .ok (.getfield 10, 3) := by decide +kernel
theorem dX8_straighten_21 : decode cX8_straighten 21 = .ok (.getfield 120, 3) := by decide +kernel
theorem dX8_straighten_24 : decode cX8_straighten 24 = .ok (.invokevirtual 144, 3) := by decide +kernel
theorem dX8_straighten_27 : decode cX8_straighten 27 = .ok (.aload_n 0, 1) := by decide +kernel
theorem dX8_straighten_28 : decode cX8_straighten 28 = .ok (.getfield 50, 3) := by decide +kernel
theorem dX8_straighten_31 : decode cX8_straighten 31 = .ok (.aload_n 0, 1) := by decide +kernel
theorem dX8_straighten_32 : decode cX8_straighten 32 = .ok (.getfield 43, 3) := by decide +kernel
theorem dX8_straighten_35 : decode cX8_straighten 35 = .ok (.iload_n 1, 1) := by decide +kernel
theorem dX8_straighten_36 : decode cX8_straighten 36 = .ok (.invokevirtual 147, 3) := by decide +kernel
theorem dX8_straighten_39 : decode cX8_straighten 39 = .ok (.aload_n 0, 1) := by decide +kernel
theorem dX8_straighten_40 : decode cX8_straighten 40 = .ok (.getfield 50, 3) := by decide +kernel
theorem dX8_straighten_43 : decode cX8_straighten 43 = .ok (.invokevirtual 151, 3) := by decide +kernel
theorem dX8_straighten_46 : decode cX8_straighten 46 = .ok (.aload_n 0, 1) := by decide +kernel
theorem dX8_straighten_47 : decode cX8_straighten 47 = .ok (.getfield 50, 3) := by decide +kernel
theorem dX8_straighten_50 : decode cX8_straighten 50 = .ok (.invokevirtual 154, 3) := by decide +kernel
theorem dX8_straighten_53 : decode cX8_straighten 53 = .ok (.istore_n 2, 1) := by decide +kernel
theorem dX8_straighten_54 : decode cX8_straighten 54 = .ok (.iload_n 2, 1) := by decide +kernel
theorem dX8_straighten_55 : decode cX8_straighten 55 = .ok (.ifCond .ne 6, 3) := by decide +kernel
theorem dX8_straighten_58 : decode cX8_straighten 58 = .ok (.bipush (-5), 2) := by decide +kernel
theorem dX8_straighten_60 : decode cX8_straighten 60 = .ok (.ireturn, 1) := by decide +kernel
theorem dX8_straighten_61 : decode cX8_straighten 61 = .ok (.aload_n 0, 1) := by decide +kernel
theorem dX8_straighten_62 : decode cX8_straighten 62 = .ok (.getfield 22, 3) := by decide +kernel
theorem dX8_straighten_65 : decode cX8_straighten 65 = .ok (.aload_n 0, 1) := by decide +kernel
theorem dX8_straighten_66 : decode cX8_straighten 66 = .ok (.getfield 10, 3) := by decide +kernel
theorem dX8_straighten_69 : decode cX8_straighten 69 = .ok (.invokevirtual 82, 3) := by decide +kernel
theorem dX8_straighten_72 : decode cX8_straighten 72 = .ok (.aload_n 0, 1) := by decide +kernel
theorem dX8_straighten_73 : decode cX8_straighten 73 = .ok (.getfield 50, 3) := by decide +kernel
theorem dX8_straighten_76 : decode cX8_straighten 76 = .ok (.aload_n 0, 1) := by decide +kernel
theorem dX8_straighten_77 : decode cX8_straighten 77 = .ok (.getfield 10, 3) := by decide +kernel
theorem dX8_straighten_80 : decode cX8_straighten 80 = .ok (.getfield 120, 3) := by decide +kernel
theorem dX8_straighten_83 : decode cX8_straighten 83 = .ok (.invokevirtual 157, 3) := by decide +kernel
theorem dX8_straighten_86 : decode cX8_straighten 86 = .ok (.iload_n 2, 1) := by decide +kernel
theorem dX8_straighten_87 : decode cX8_straighten 87 = .ok (.ireturn, 1) := by decide +kernel
set_option maxRecDepth 20000 in
theorem ggX8_insertScene_X8_isScene : GoodIn wsX8_insertScene wsX8_isScene := goodIn_r _ [6] (by decide +kernel) (by decide +kernel)
set_option maxRecDepth 20000 in
theorem gX8_insertScene_X8_isScene : GoodIn wsX8_insertScene (va_wsS RX8 161 yX8_isScene wsX8_isScene) := goodIn_app (goodIn_of _ (by decide +kernel)) ggX8_insertScene_X8_isScene
set_option maxRecDepth 20000 in
theorem ggX8_insertScene_X7_sizeOf : GoodIn wsX8_insertScene wsX7_sizeOf := goodIn_r _ [11, 12, 13, 14, 10, 15, 4, 5, 6, 16, 17, 18, 19, 20, 21, 22, 89] (by decide +kernel) (by decide +kernel)
set_option maxRecDepth 20000 in
theorem gX8_insertScene_X7_sizeOf : GoodIn wsX8_insertScene (wsV RX8 164 RX7 yX7_sizeOf wsX7_sizeOf) := goodIn_app (goodIn_of _ (by decide +kernel)) ggX8_insertScene_X7_sizeOf
set_option maxRecDepth 20000 in
theorem ggX8_insertScene_X2_record : GoodIn wsX8_insertScene wsX2_record := goodIn_r _ [27, 28, 29, 30, 31, 32, 26, 33, 34, 35, 36, 37, 38, 39, 40, 41, 42, 43, 44, 45, 46, 47, 48, 49, 50, 51, 52, 53, 54, 55, 56, 57, 10, 58, 22, 59, 90, 91, 92, 86, 87, 88, 93, 94, 89] (by decide +kernel) (by decide +kernel)
set_option maxRecDepth 20000 in
theorem gX8_insertScene_X2_record : GoodIn wsX8_insertScene (wsV RX8 82 RX2 yX2_record wsX2_record) := goodIn_app (goodIn_of _ (by decide +kernel)) ggX8_insertScene_X2_record
set_option maxRecDepth 20000 in
theorem ggX8_insertScene_X7_exchangeScenes : GoodIn wsX8_insertScene wsX7_exchangeScenes := goodIn_r _ [63, 16, 5, 17, 64, 65, 66, 10, 67, 18, 19, 20, 21, 22, 68, 69, 70, 71, 89] (by decide +kernel) (by decide +kernel)
set_option maxRecDepth 20000 in
theorem gX8_insertScene_X7_exchangeScenes : GoodIn wsX8_insertScene (wsV RX8 167 RX7 yX7_exchangeScenes wsX7_exchangeScenes) := goodIn_app (goodIn_of _ (by decide +kernel)) ggX8_insertScene_X7_exchangeScenes
set_option maxRecDepth 20000 in
theorem ggX8_insertScene_X7_scenesWithCards : GoodIn wsX8_insertScene wsX7_scenesWithCards := goodIn_r _ [75, 76, 8, 9, 10, 11, 12, 13, 14, 15, 4, 5, 6, 16, 17, 18, 19, 20, 21, 22, 89] (by decide +kernel) (by decide +kernel)
set_option maxRecDepth 20000 in
theorem gX8_insertScene_X7_scenesWithCards : GoodIn wsX8_insertScene (wsV RX8 170 RX7 yX7_scenesWithCards wsX7_scenesWithCards) := goodIn_app (goodIn_of _ (by decide +kernel)) ggX8_insertScene_X7_scenesWithCards
theorem dX8_insertScene_0 : decode cX8_insertScene 0 = .ok (.iload_n 1, 1) := by decide +kernel
theorem dX8_insertScene_1 : decode cX8_insertScene 1 = .ok (.invokestatic 161, 3) := by decide +kernel
theorem dX8_insertScene_4 : decode cX8_insertScene 4 = .ok (.ifCond .ne 5, 3) := by decide +kernel
theorem dX8_insertScene_7 : decode cX8_insertScene 7 = .ok (.iconst (-1), 1) := by decide +kernel
theorem dX8_insertScene_8 : decode cX8_insertScene 8 = .ok (.ireturn, 1) := by decide +kernel
theorem dX8_insertScene_9 : decode cX8_insertScene 9 = .ok (.aload_n 0, 1) := by decide +kernel
theorem dX8_insertScene_10 : decode cX8_insertScene 10 = .ok (.getfield 10, 3) := by decide +kernel
theorem dX8_insertScene_13 : decode cX8_insertScene 13 = .ok (.getfield 120, 3) := by decide +kernel
theorem dX8_insertScene_16 : decode cX8_insertScene 16 = .ok (.bipush 15, 2) := by decide +kernel
theorem dX8_insertScene_18 : decode cX8_insertScene 18 = .ok (.invokevirtual 164, 3) := by decide +kernel
theorem dX8_insertScene_21 : decode cX8_insertScene 21 = .ok (.ifCond .le 6, 3) := by decide +kernel
theorem dX8_insertScene_24 : decode cX8_insertScene 24 = .ok (.bipush (-3), 2) := by decide +kernel
theorem dX8_insertScene_26 : decode cX8_insertScene 26 = .ok (.ireturn, 1) := by decide +kernel
theorem dX8_insertScene_27 : decode cX8_insertScene 27 = .ok (.aload_n 0, 1) := by decide +kernel
theorem dX8_insertScene_28 : decode cX8_insertScene 28 = .ok (.getfield 22, 3) := by decide +kernel
theorem dX8_insertScene_31 : decode cX8_insertScene 31 = .ok (.aload_n 0, 1) := by decide +kernel
theorem dX8_insertScene_32 : decode cX8_insertScene 32 = .ok (.getfield 10, 3) := by decide +kernel
theorem dX8_insertScene_35 : decode cX8_insertScene 35 = .ok (.invokevirtual 82, 3) := by decide +kernel
theorem dX8_insertScene_38 : decode cX8_insertScene 38 = .ok (.bipush 15, 2) := by decide +kernel
theorem dX8_insertScene_40 : decode cX8_insertScene 40 = .ok (.istore_n 2, 1) := by decide +kernel
theorem dX8_insertScene_41 : decode cX8_insertScene 41 = .ok (.iload_n 2, 1) := by decide +kernel
theorem dX8_insertScene_42 : decode cX8_insertScene 42 = .ok (.iload_n 1, 1) := by decide +kernel
theorem dX8_insertScene_43 : decode cX8_insertScene 43 = .ok (.if_icmp .le 23, 3) := by decide +kernel
theorem dX8_insertScene_46 : decode cX8_insertScene 46 = .ok (.aload_n 0, 1) := by decide +kernel
theorem dX8_insertScene_47 : decode cX8_insertScene 47 = .ok (.getfield 10, 3) := by decide +kernel
theorem dX8_insertScene_50 : decode cX8_insertScene 50 = .ok (.getfield 120, 3) := by decide +kernel
theorem dX8_insertScene_53 : decode cX8_insertScene 53 = .ok (.iload_n 2, 1) := by decide +kernel
theorem dX8_insertScene_54 : decode cX8_insertScene 54 = .ok (.iconst 1, 1) := by decide +kernel
theorem dX8_insertScene_55 : decode cX8_insertScene 55 = .ok (.isub, 1) := by decide +kernel
theorem dX8_insertScene_56 : decode cX8_insertScene 56 = .ok (.iload_n 2, 1) := by decide +kernel
theorem dX8_insertScene_57 : decode cX8_insertScene 57 = .ok (.invokevirtual 167, 3) := by decide +kernel
theorem dX8_insertScene_60 : decode cX8_insertScene 60 = .ok (.iinc 2 (-1), 3) := by decide +kernel
theorem dX8_insertScene_63 : decode cX8_insertScene 63 = .ok (.goto (-22), 3) := by decide +kernel
theorem dX8_insertScene_66 : decode cX8_insertScene 66 = .ok (.aload_n 0, 1) := by decide +kernel
theorem dX8_insertScene_67 : decode cX8_insertScene 67 = .ok (.getfield 10, 3) := by decide +kernel
theorem dX8_insertScene_70 : decode cX8_insertScene 70 = .ok (.getfield 120, 3) := by decide +kernel
theorem dX8_insertScene_73 : decode cX8_insertScene 73 = .ok (.invokevirtual 170, 3) := by decide +kernel
theorem dX8_insertScene_76 : decode cX8_insertScene 76 = .ok (.ireturn, 1) := by decide +kernel
set_option maxRecDepth 20000 in
theorem ggX8_removeScene_X8_isScene : GoodIn wsX8_removeScene wsX8_isScene := goodIn_r _ [6] (by decide +kernel) (by decide +kernel)
set_option maxRecDepth 20000 in
theorem gX8_removeScene_X8_isScene : GoodIn wsX8_removeScene (va_wsS RX8 161 yX8_isScene wsX8_isScene) := goodIn_app (goodIn_of _ (by decide +kernel)) ggX8_removeScene_X8_isScene
set_option maxRecDepth 20000 in
theorem ggX8_removeScene_X7_sizeOf : GoodIn wsX8_removeScene wsX7_sizeOf := goodIn_r _ [11, 12, 13, 14, 10, 15, 4, 5, 6, 16, 17, 18, 19, 20, 21, 22, 93] (by decide +kernel) (by decide +kernel)
set_option maxRecDepth 20000 in
theorem gX8_removeScene_X7_sizeOf : GoodIn wsX8_removeScene (wsV RX8 164 RX7 yX7_sizeOf wsX7_sizeOf) := goodIn_app (goodIn_of _ (by decide +kernel)) ggX8_removeScene_X7_sizeOf
set_option maxRecDepth 20000 in
theorem ggX8_removeScene_X7_hasCards : GoodIn wsX8_removeScene wsX7_hasCards := goodIn_r _ [26, 27, 8, 9, 10, 11, 12, 13, 14, 15, 4, 5, 6, 16, 17, 18, 19, 20, 21, 22, 93] (by decide +kernel) (by decide +kernel)
set_option maxRecDepth 20000 in
theorem gX8_removeScene_X7_hasCards : GoodIn wsX8_removeScene (wsV RX8 173 RX7 yX7_hasCards wsX7_hasCards) := goodIn_app (goodIn_of _ (by decide +kernel)) ggX8_removeScene_X7_hasCards
set_option maxRecDepth 20000 in
theorem ggX8_removeScene_X2_record : GoodIn wsX8_removeScene wsX2_record := goodIn_r _ [32, 33, 34, 35, 36, 37, 31, 38, 39, 40, 41, 42, 43, 44, 45, 46, 47, 48, 49, 50, 51, 52, 53, 54, 55, 56, 57, 58, 59, 60, 61, 62, 10, 63, 22, 64, 94, 95, 96, 90, 91, 92, 97, 98, 93] (by decide +kernel) (by decide +kernel)
set_option maxRecDepth 20000 in
theorem gX8_removeScene_X2_record : GoodIn wsX8_removeScene (wsV RX8 82 RX2 yX2_record wsX2_record) := goodIn_app (goodIn_of _ (by decide +kernel)) ggX8_removeScene_X2_record
set_option maxRecDepth 20000 in
theorem ggX8_removeScene_X7_exchangeScenes : GoodIn wsX8_removeScene wsX7_exchangeScenes := goodIn_r _ [68, 16, 5, 17, 69, 70, 71, 10, 72, 18, 19, 20, 21, 22, 73, 74, 75, 76, 93] (by decide +kernel) (by decide +kernel)
set_option maxRecDepth 20000 in
theorem gX8_removeScene_X7_exchangeScenes : GoodIn wsX8_removeScene (wsV RX8 167 RX7 yX7_exchangeScenes wsX7_exchangeScenes) := goodIn_app (goodIn_of _ (by decide +kernel)) ggX8_removeScene_X7_exchangeScenes
set_option maxRecDepth 20000 in
theorem ggX8_removeScene_X7_scenesWithCards : GoodIn wsX8_removeScene wsX7_scenesWithCards := goodIn_r _ [80, 27, 8, 9, 10, 11, 12, 13, 14, 15, 4, 5, 6, 16, 17, 18, 19, 20, 21, 22, 93] (by decide +kernel) (by decide +kernel)
set_option maxRecDepth 20000 in
theorem gX8_removeScene_X7_scenesWithCards : GoodIn wsX8_removeScene (wsV RX8 170 RX7 yX7_scenesWithCards wsX7_scenesWithCards) := goodIn_app (goodIn_of _ (by decide +kernel)) ggX8_removeScene_X7_scenesWithCards
theorem dX8_removeScene_0 : decode cX8_removeScene 0 = .ok (.iload_n 1, 1) := by decide +kernel
theorem dX8_removeScene_1 : decode cX8_removeScene 1 = .ok (.invokestatic 161, 3) := by decide +kernel
theorem dX8_removeScene_4 : decode cX8_removeScene 4 = .ok (.ifCond .ne 5, 3) := by decide +kernel
theorem dX8_removeScene_7 : decode cX8_removeScene 7 = .ok (.iconst (-1), 1) := by decide +kernel
theorem dX8_removeScene_8 : decode cX8_removeScene 8 = .ok (.ireturn, 1) := by decide +kernel
theorem dX8_removeScene_9 : decode cX8_removeScene 9 = .ok (.aload_n 0, 1) := by decide +kernel
theorem dX8_removeScene_10 : decode cX8_removeScene 10 = .ok (.getfield 10, 3) := by decide +kernel
theorem dX8_removeScene_13 : decode cX8_removeScene 13 = .ok (.getfield 120, 3) := by decide +kernel
theorem dX8_removeScene_16 : decode cX8_removeScene 16 = .ok (.iload_n 1, 1) := by decide +kernel
theorem dX8_removeScene_17 : decode cX8_removeScene 17 = .ok (.invokevirtual 164, 3) := by decide +kernel
theorem dX8_removeScene_20 : decode cX8_removeScene 20 = .ok (.ifCond .le 6, 3) := by decide +kernel
theorem dX8_removeScene_23 : decode cX8_removeScene 23 = .ok (.bipush (-4), 2) := by decide +kernel
theorem dX8_removeScene_25 : decode cX8_removeScene 25 = .ok (.ireturn, 1) := by decide +kernel
theorem dX8_removeScene_26 : decode cX8_removeScene 26 = .ok (.aload_n 0, 1) := by decide +kernel
theorem dX8_removeScene_27 : decode cX8_removeScene 27 = .ok (.getfield 10, 3) := by decide +kernel
theorem dX8_removeScene_30 : decode cX8_removeScene 30 = .ok (.getfield 120, 3) := by decide +kernel
theorem dX8_removeScene_33 : decode cX8_removeScene 33 = .ok (.iload_n 1, 1) := by decide +kernel
theorem dX8_removeScene_34 : decode cX8_removeScene 34 = .ok (.iconst 1, 1) := by decide +kernel
theorem dX8_removeScene_35 : decode cX8_removeScene 35 = .ok (.iadd, 1) := by decide +kernel
theorem dX8_removeScene_36 : decode cX8_removeScene 36 = .ok (.bipush 16, 2) := by decide +kernel
theorem dX8_removeScene_38 : decode cX8_removeScene 38 = .ok (.invokevirtual 173, 3) := by decide +kernel
theorem dX8_removeScene_41 : decode cX8_removeScene 41 = .ok (.ifCond .ne 6, 3) := by decide +kernel
theorem dX8_removeScene_44 : decode cX8_removeScene 44 = .ok (.bipush (-5), 2) := by decide +kernel
theorem dX8_removeScene_46 : decode cX8_removeScene 46 = .ok (.ireturn, 1) := by decide +kernel
theorem dX8_removeScene_47 : decode cX8_removeScene 47 = .ok (.aload_n 0, 1) := by decide +kernel
theorem dX8_removeScene_48 : decode cX8_removeScene 48 = .ok (.getfield 22, 3) := by decide +kernel
theorem dX8_removeScene_51 : decode cX8_removeScene 51 = .ok (.aload_n 0, 1) := by decide +kernel
theorem dX8_removeScene_52 : decode cX8_removeScene 52 = .ok (.getfield 10, 3) := by decide +kernel
theorem dX8_removeScene_55 : decode cX8_removeScene 55 = .ok (.invokevirtual 82, 3) := by decide +kernel
theorem dX8_removeScene_58 : decode cX8_removeScene 58 = .ok (.iload_n 1, 1) := by decide +kernel
theorem dX8_removeScene_59 : decode cX8_removeScene 59 = .ok (.iconst 1, 1) := by decide +kernel
theorem dX8_removeScene_60 : decode cX8_removeScene 60 = .ok (.iadd, 1) := by decide +kernel
theorem dX8_removeScene_61 : decode cX8_removeScene 61 = .ok (.istore_n 2, 1) := by decide +kernel
theorem dX8_removeScene_62 : decode cX8_removeScene 62 = .ok (.iload_n 2, 1) := by decide +kernel
theorem dX8_removeScene_63 : decode cX8_removeScene 63 = .ok (.bipush 16, 2) := by decide +kernel
theorem dX8_removeScene_65 : decode cX8_removeScene 65 = .ok (.if_icmp .ge 23, 3) := by decide +kernel
theorem dX8_removeScene_68 : decode cX8_removeScene 68 = .ok (.aload_n 0, 1) := by decide +kernel
theorem dX8_removeScene_69 : decode cX8_removeScene 69 = .ok (.getfield 10, 3) := by decide +kernel
theorem dX8_removeScene_72 : decode cX8_removeScene 72 = .ok (.getfield 120, 3) := by decide +kernel
theorem dX8_removeScene_75 : decode cX8_removeScene 75 = .ok (.iload_n 2, 1) := by decide +kernel
theorem dX8_removeScene_76 : decode cX8_removeScene 76 = .ok (.iconst 1, 1) := by decide +kernel
theorem dX8_removeScene_77 : decode cX8_removeScene 77 = .ok (.isub, 1) := by decide +kernel
theorem dX8_removeScene_78 : decode cX8_removeScene 78 = .ok (.iload_n 2, 1) := by decide +kernel
theorem dX8_removeScene_79 : decode cX8_removeScene 79 = .ok (.invokevirtual 167, 3) := by decide +kernel
theorem dX8_removeScene_82 : decode cX8_removeScene 82 = .ok (.iinc 2 1, 3) := by decide +kernel
theorem dX8_removeScene_85 : decode cX8_removeScene 85 = .ok (.goto (-23), 3) := by decide +kernel
theorem dX8_removeScene_88 : decode cX8_removeScene 88 = .ok (.aload_n 0, 1) := by decide +kernel
theorem dX8_removeScene_89 : decode cX8_removeScene 89 = .ok (.getfield 10, 3) := by decide +kernel
theorem dX8_removeScene_92 : decode cX8_removeScene 92 = .ok (.getfield 120, 3) := by decide +kernel
theorem dX8_removeScene_95 : decode cX8_removeScene 95 = .ok (.invokevirtual 170, 3) := by decide +kernel
theorem dX8_removeScene_98 : decode cX8_removeScene 98 = .ok (.ireturn, 1) := by decide +kernel
set_option maxRecDepth 20000 in
theorem ggX8_swapScenes_X8_isScene : GoodIn wsX8_swapScenes wsX8_isScene := goodIn_r _ [6] (by decide +kernel) (by decide +kernel)
set_option maxRecDepth 20000 in
theorem gX8_swapScenes_X8_isScene : GoodIn wsX8_swapScenes (va_wsS RX8 161 yX8_isScene wsX8_isScene) := goodIn_app (goodIn_of _ (by decide +kernel)) ggX8_swapScenes_X8_isScene
set_option maxRecDepth 20000 in
theorem ggX8_swapScenes_X7_sizeOf : GoodIn wsX8_swapScenes wsX7_sizeOf := goodIn_r _ [11, 12, 13, 14, 10, 15, 4, 5, 6, 16, 17, 18, 19, 20, 21, 22, 184] (by decide +kernel) (by decide +kernel)
set_option maxRecDepth 20000 in
theorem gX8_swapScenes_X7_sizeOf : GoodIn wsX8_swapScenes (wsV RX8 164 RX7 yX7_sizeOf wsX7_sizeOf) := goodIn_app (goodIn_of _ (by decide +kernel)) ggX8_swapScenes_X7_sizeOf
set_option maxRecDepth 20000 in
theorem ggX8_swapScenes_X2_record : GoodIn wsX8_swapScenes wsX2_record := goodIn_r _ [27, 28, 29, 30, 31, 32, 26, 33, 34, 35, 36, 37, 38, 39, 40, 41, 42, 43, 44, 45, 46, 47, 48, 49, 50, 51, 52, 53, 54, 55, 56, 57, 10, 58, 22, 59, 185, 186, 187, 181, 182, 183, 188, 189, 184] (by decide +kernel) (by decide +kernel)
set_option maxRecDepth 20000 in
theorem gX8_swapScenes_X2_record : GoodIn wsX8_swapScenes (wsV RX8 82 RX2 yX2_record wsX2_record) := goodIn_app (goodIn_of _ (by decide +kernel)) ggX8_swapScenes_X2_record
set_option maxRecDepth 20000 in
theorem ggX8_swapScenes_X7_exchangeScenes : GoodIn wsX8_swapScenes wsX7_exchangeScenes := goodIn_r _ [63, 16, 5, 17, 64, 65, 66, 10, 67, 18, 19, 20, 21, 22, 68, 69, 70, 71, 184] (by decide +kernel) (by decide +kernel)
set_option maxRecDepth 20000 in
theorem gX8_swapScenes_X7_exchangeScenes : GoodIn wsX8_swapScenes (wsV RX8 167 RX7 yX7_exchangeScenes wsX7_exchangeScenes) := goodIn_app (goodIn_of _ (by decide +kernel)) ggX8_swapScenes_X7_exchangeScenes
set_option maxRecDepth 20000 in
theorem ggX8_swapScenes_X8_breaksNow : GoodIn wsX8_swapScenes wsX8_breaksNow := goodIn_r _ [75, 76, 1, 77, 78, 79, 80, 81, 82, 83, 84, 85, 86, 87, 88, 89, 90, 50, 91, 54, 92, 93, 94, 38, 95, 42, 96, 19, 20, 10, 21, 22, 97, 98, 99, 100, 101, 102, 103, 104, 105, 106, 107, 108, 109, 110, 111, 112, 52, 113, 114, 115, 116, 117, 5, 118, 119, 120, 121, 122, 123, 124, 125, 126, 127, 128, 129, 130, 131, 132, 133, 134, 135, 136, 137, 138, 139, 140, 141, 142, 143, 144, 145, 146, 147, 148, 149, 150, 151, 152, 153, 154, 155, 156, 157, 158, 159, 160, 161, 162, 163, 164, 165, 166, 167, 168, 169, 170, 171, 172, 173, 174, 175, 176, 177, 178, 179, 180, 181, 182, 183, 190, 191, 192, 193, 194, 195, 196, 197, 198, 199, 188, 189, 184] (by decide +kernel) (by decide +kernel)
set_option maxRecDepth 20000 in
theorem gX8_swapScenes_X8_breaksNow : GoodIn wsX8_swapScenes (wsV RX8 137 RX8 yX8_breaksNow wsX8_breaksNow) := goodIn_app (goodIn_of _ (by decide +kernel)) ggX8_swapScenes_X8_breaksNow
theorem dX8_swapScenes_0 : decode cX8_swapScenes 0 = .ok (.iload_n 1, 1) := by decide +kernel
theorem dX8_swapScenes_1 : decode cX8_swapScenes 1 = .ok (.invokestatic 161, 3) := by decide +kernel
theorem dX8_swapScenes_4 : decode cX8_swapScenes 4 = .ok (.ifCond .eq 10, 3) := by decide +kernel
theorem dX8_swapScenes_7 : decode cX8_swapScenes 7 = .ok (.iload_n 2, 1) := by decide +kernel
theorem dX8_swapScenes_8 : decode cX8_swapScenes 8 = .ok (.invokestatic 161, 3) := by decide +kernel
theorem dX8_swapScenes_11 : decode cX8_swapScenes 11 = .ok (.ifCond .ne 5, 3) := by decide +kernel
theorem dX8_swapScenes_14 : decode cX8_swapScenes 14 = .ok (.iconst (-1), 1) := by decide +kernel
theorem dX8_swapScenes_15 : decode cX8_swapScenes 15 = .ok (.ireturn, 1) := by decide +kernel
theorem dX8_swapScenes_16 : decode cX8_swapScenes 16 = .ok (.iload_n 1, 1) := by decide +kernel
theorem dX8_swapScenes_17 : decode cX8_swapScenes 17 = .ok (.iload_n 2, 1) := by decide +kernel
theorem dX8_swapScenes_18 : decode cX8_swapScenes 18 = .ok (.if_icmp .ne 6, 3) := by decide +kernel
theorem dX8_swapScenes_21 : decode cX8_swapScenes 21 = .ok (.bipush (-2), 2) := by decide +kernel
theorem dX8_swapScenes_23 : decode cX8_swapScenes 23 = .ok (.ireturn, 1) := by decide +kernel
theorem dX8_swapScenes_24 : decode cX8_swapScenes 24 = .ok (.aload_n 0, 1) := by decide +kernel
theorem dX8_swapScenes_25 : decode cX8_swapScenes 25 = .ok (.getfield 10, 3) := by decide +kernel
theorem dX8_swapScenes_28 : decode cX8_swapScenes 28 = .ok (.getfield 120, 3) := by decide +kernel
theorem dX8_swapScenes_31 : decode cX8_swapScenes 31 = .ok (.iload_n 1, 1) := by decide +kernel
theorem dX8_swapScenes_32 : decode cX8_swapScenes 32 = .ok (.invokevirtual 164, 3) := by decide +kernel
theorem dX8_swapScenes_35 : decode cX8_swapScenes 35 = .ok (.ifCond .ne 20, 3) := by decide +kernel
theorem dX8_swapScenes_38 : decode cX8_swapScenes 38 = .ok (.aload_n 0, 1) := by decide +kernel
theorem dX8_swapScenes_39 : decode cX8_swapScenes 39 = .ok (.getfield 10, 3) := by decide +kernel
theorem dX8_swapScenes_42 : decode cX8_swapScenes 42 = .ok (.getfield 120, 3) := by decide +kernel
theorem dX8_swapScenes_45 : decode cX8_swapScenes 45 = .ok (.iload_n 2, 1) := by decide +kernel
theorem dX8_swapScenes_46 : decode cX8_swapScenes 46 = .ok (.invokevirtual 164, 3) := by decide +kernel
theorem dX8_swapScenes_49 : decode cX8_swapScenes 49 = .ok (.ifCond .ne 6, 3) := by decide +kernel
theorem dX8_swapScenes_52 : decode cX8_swapScenes 52 = .ok (.bipush (-5), 2) := by decide +kernel
theorem dX8_swapScenes_54 : decode cX8_swapScenes 54 = .ok (.ireturn, 1) := by decide +kernel
theorem dX8_swapScenes_55 : decode cX8_swapScenes 55 = .ok (.aload_n 0, 1) := by decide +kernel
theorem dX8_swapScenes_56 : decode cX8_swapScenes 56 = .ok (.getfield 22, 3) := by decide +kernel
theorem dX8_swapScenes_59 : decode cX8_swapScenes 59 = .ok (.aload_n 0, 1) := by decide +kernel
theorem dX8_swapScenes_60 : decode cX8_swapScenes 60 = .ok (.getfield 10, 3) := by decide +kernel
theorem dX8_swapScenes_63 : decode cX8_swapScenes 63 = .ok (.invokevirtual 82, 3) := by decide +kernel
theorem dX8_swapScenes_66 : decode cX8_swapScenes 66 = .ok (.aload_n 0, 1) := by decide +kernel
theorem dX8_swapScenes_67 : decode cX8_swapScenes 67 = .ok (.getfield 10, 3) := by decide +kernel
theorem dX8_swapScenes_70 : decode cX8_swapScenes 70 = .ok (.getfield 120, 3) := by decide +kernel
theorem dX8_swapScenes_73 : decode cX8_swapScenes 73 = .ok (.iload_n 1, 1) := by decide +kernel
theorem dX8_swapScenes_74 : decode cX8_swapScenes 74 = .ok (.iload_n 2, 1) := by decide +kernel
theorem dX8_swapScenes_75 : decode cX8_swapScenes 75 = .ok (.invokevirtual 167, 3) := by decide +kernel
theorem dX8_swapScenes_78 : decode cX8_swapScenes 78 = .ok (.aload_n 0, 1) := by decide +kernel
theorem dX8_swapScenes_79 : decode cX8_swapScenes 79 = .ok (.iconst (-1), 1) := by decide +kernel
theorem dX8_swapScenes_80 : decode cX8_swapScenes 80 = .ok (.invokevirtual 137, 3) := by decide +kernel
theorem dX8_swapScenes_83 : decode cX8_swapScenes 83 = .ok (.ireturn, 1) := by decide +kernel
set_option maxRecDepth 20000 in
theorem ggX8_set_X4_setting : GoodIn wsX8_set wsX4_setting := goodIn_r _ [9, 10, 61, 62, 63] (by decide +kernel) (by decide +kernel)
set_option maxRecDepth 20000 in
theorem gX8_set_X4_setting : GoodIn wsX8_set (wsV RX8 183 RX4 yX4_setting wsX4_setting) := goodIn_app (goodIn_of _ (by decide +kernel)) ggX8_set_X4_setting
set_option maxRecDepth 20000 in
theorem ggX8_set_X2_record : GoodIn wsX8_set wsX2_record := goodIn_r _ [15, 16, 17, 18, 19, 20, 14, 21, 22, 23, 24, 25, 8, 26, 27, 28, 10, 29, 30, 31, 32, 33, 34, 35, 36, 37, 38, 39, 40, 41, 42, 43, 44, 45, 46, 47, 64, 65, 66, 61, 62, 63, 67, 68, 69] (by decide +kernel) (by decide +kernel)
set_option maxRecDepth 20000 in
theorem gX8_set_X2_record : GoodIn wsX8_set (wsV RX8 82 RX2 yX2_record wsX2_record) := goodIn_app (goodIn_of _ (by decide +kernel)) ggX8_set_X2_record
set_option maxRecDepth 20000 in
theorem ggX8_set_X4_putSetting : GoodIn wsX8_set wsX4_putSetting := goodIn_r _ [51, 10, 61, 62, 63] (by decide +kernel) (by decide +kernel)
set_option maxRecDepth 20000 in
theorem gX8_set_X4_putSetting : GoodIn wsX8_set (wsV RX8 186 RX4 yX4_putSetting wsX4_putSetting) := goodIn_app (goodIn_of _ (by decide +kernel)) ggX8_set_X4_putSetting
theorem dX8_set_0 : decode cX8_set 0 = .ok (.iload_n 1, 1) := by decide +kernel
theorem dX8_set_1 : decode cX8_set 1 = .ok (.ifCond .lt 8, 3) := by decide +kernel
theorem dX8_set_4 : decode cX8_set 4 = .ok (.iload_n 1, 1) := by decide +kernel
theorem dX8_set_5 : decode cX8_set 5 = .ok (.iconst 3, 1) := by decide +kernel
theorem dX8_set_6 : decode cX8_set 6 = .ok (.if_icmp .lt 6, 3) := by decide +kernel
theorem dX8_set_9 : decode cX8_set 9 = .ok (.bipush (-2), 2) := by decide +kernel
theorem dX8_set_11 : decode cX8_set 11 = .ok (.ireturn, 1) := by decide +kernel
theorem dX8_set_12 : decode cX8_set 12 = .ok (.iload_n 2, 1) := by decide +kernel
theorem dX8_set_13 : decode cX8_set 13 = .ok (.getstatic 176, 3) := by decide +kernel
theorem dX8_set_16 : decode cX8_set 16 = .ok (.iload_n 1, 1) := by decide +kernel
theorem dX8_set_17 : decode cX8_set 17 = .ok (.iaload, 1) := by decide +kernel
theorem dX8_set_18 : decode cX8_set 18 = .ok (.if_icmp .lt 12, 3) := by decide +kernel
theorem dX8_set_21 : decode cX8_set 21 = .ok (.iload_n 2, 1) := by decide +kernel
theorem dX8_set_22 : decode cX8_set 22 = .ok (.getstatic 180, 3) := by decide +kernel
theorem dX8_set_25 : decode cX8_set 25 = .ok (.iload_n 1, 1) := by decide +kernel
theorem dX8_set_26 : decode cX8_set 26 = .ok (.iaload, 1) := by decide +kernel
theorem dX8_set_27 : decode cX8_set 27 = .ok (.if_icmp .le 6, 3) := by decide +kernel
theorem dX8_set_30 : decode cX8_set 30 = .ok (.bipush (-2), 2) := by decide +kernel
theorem dX8_set_32 : decode cX8_set 32 = .ok (.ireturn, 1) := by decide +kernel
theorem dX8_set_33 : decode cX8_set 33 = .ok (.aload_n 0, 1) := by decide +kernel
theorem dX8_set_34 : decode cX8_set 34 = .ok (.getfield 10, 3) := by decide +kernel
theorem dX8_set_37 : decode cX8_set 37 = .ok (.iload_n 1, 1) := by decide +kernel
theorem dX8_set_38 : decode cX8_set 38 = .ok (.invokevirtual 183, 3) := by decide +kernel
theorem dX8_set_41 : decode cX8_set 41 = .ok (.istore_n 3, 1) := by decide +kernel
theorem dX8_set_42 : decode cX8_set 42 = .ok (.iload_n 3, 1) := by decide +kernel
theorem dX8_set_43 : decode cX8_set 43 = .ok (.iload_n 2, 1) := by decide +kernel
theorem dX8_set_44 : decode cX8_set 44 = .ok (.if_icmp .ne 6, 3) := by decide +kernel
theorem dX8_set_47 : decode cX8_set 47 = .ok (.bipush (-5), 2) := by decide +kernel
theorem dX8_set_49 : decode cX8_set 49 = .ok (.ireturn, 1) := by decide +kernel
theorem dX8_set_50 : decode cX8_set 50 = .ok (.aload_n 0, 1) := by decide +kernel
theorem dX8_set_51 : decode cX8_set 51 = .ok (.getfield 22, 3) := by decide +kernel
theorem dX8_set_54 : decode cX8_set 54 = .ok (.aload_n 0, 1) := by decide +kernel
theorem dX8_set_55 : decode cX8_set 55 = .ok (.getfield 10, 3) := by decide +kernel
theorem dX8_set_58 : decode cX8_set 58 = .ok (.invokevirtual 82, 3) := by decide +kernel
theorem dX8_set_61 : decode cX8_set 61 = .ok (.aload_n 0, 1) := by decide +kernel
theorem dX8_set_62 : decode cX8_set 62 = .ok (.getfield 10, 3) := by decide +kernel
theorem dX8_set_65 : decode cX8_set 65 = .ok (.iload_n 1, 1) := by decide +kernel
theorem dX8_set_66 : decode cX8_set 66 = .ok (.iload_n 2, 1) := by decide +kernel
theorem dX8_set_67 : decode cX8_set 67 = .ok (.invokevirtual 186, 3) := by decide +kernel
theorem dX8_set_70 : decode cX8_set 70 = .ok (.iload_n 3, 1) := by decide +kernel
theorem dX8_set_71 : decode cX8_set 71 = .ok (.ireturn, 1) := by decide +kernel
set_option maxRecDepth 20000 in
theorem ggX8_type_X0_append : GoodIn wsX8_type wsX0_append := goodIn_r _ [6, 7, 8, 22, 23, 24, 25, 26] (by decide +kernel) (by decide +kernel)
set_option maxRecDepth 20000 in
theorem gX8_type_X0_append : GoodIn wsX8_type (wsV RX8 189 RX0 yX0_append wsX0_append) := goodIn_app (goodIn_of _ (by decide +kernel)) ggX8_type_X0_append
set_option maxRecDepth 20000 in
theorem ggX8_type_X0_length : GoodIn wsX8_type wsX0_length := goodIn_r _ [12, 7, 22, 23, 24, 25, 26] (by decide +kernel) (by decide +kernel)
set_option maxRecDepth 20000 in
theorem gX8_type_X0_length : GoodIn wsX8_type (wsV RX8 192 RX0 yX0_length wsX0_length) := goodIn_app (goodIn_of _ (by decide +kernel)) ggX8_type_X0_length
theorem dX8_type_0 : decode cX8_type 0 = .ok (.aload_n 0, 1) := by decide +kernel
theorem dX8_type_1 : decode cX8_type 1 = .ok (.getfield 29, 3) := by decide +kernel
theorem dX8_type_4 : decode cX8_type 4 = .ok (.iload_n 1, 1) := by decide +kernel
theorem dX8_type_5 : decode cX8_type 5 = .ok (.invokevirtual 189, 3) := by decide +kernel
theorem dX8_type_8 : decode cX8_type 8 = .ok (.ifCond .eq 13, 3) := by decide +kernel
theorem dX8_type_11 : decode cX8_type 11 = .ok (.aload_n 0, 1) := by decide +kernel
theorem dX8_type_12 : decode cX8_type 12 = .ok (.getfield 29, 3) := by decide +kernel
theorem dX8_type_15 : decode cX8_type 15 = .ok (.invokevirtual 192, 3) := by decide +kernel
theorem dX8_type_18 : decode cX8_type 18 = .ok (.goto 5, 3) := by decide +kernel
theorem dX8_type_21 : decode cX8_type 21 = .ok (.bipush (-3), 2) := by decide +kernel
theorem dX8_type_23 : decode cX8_type 23 = .ok (.ireturn, 1) := by decide +kernel
set_option maxRecDepth 20000 in
theorem ggX8_clearText_X0_length : GoodIn wsX8_clearText wsX0_length := goodIn_r _ [6, 7, 21, 22, 23, 24, 25] (by decide +kernel) (by decide +kernel)
set_option maxRecDepth 20000 in
theorem gX8_clearText_X0_length : GoodIn wsX8_clearText (wsV RX8 192 RX0 yX0_length wsX0_length) := goodIn_app (goodIn_of _ (by decide +kernel)) ggX8_clearText_X0_length
set_option maxRecDepth 20000 in
theorem ggX8_clearText_X0_clear : GoodIn wsX8_clearText wsX0_clear := goodIn_r _ [11, 7, 21, 22, 23, 24, 25] (by decide +kernel) (by decide +kernel)
set_option maxRecDepth 20000 in
theorem gX8_clearText_X0_clear : GoodIn wsX8_clearText (wsV RX8 195 RX0 yX0_clear wsX0_clear) := goodIn_app (goodIn_of _ (by decide +kernel)) ggX8_clearText_X0_clear
theorem dX8_clearText_0 : decode cX8_clearText 0 = .ok (.aload_n 0, 1) := by decide +kernel
theorem dX8_clearText_1 : decode cX8_clearText 1 = .ok (.getfield 29, 3) := by decide +kernel
theorem dX8_clearText_4 : decode cX8_clearText 4 = .ok (.invokevirtual 192, 3) := by decide +kernel
theorem dX8_clearText_7 : decode cX8_clearText 7 = .ok (.istore_n 1, 1) := by decide +kernel
theorem dX8_clearText_8 : decode cX8_clearText 8 = .ok (.aload_n 0, 1) := by decide +kernel
theorem dX8_clearText_9 : decode cX8_clearText 9 = .ok (.getfield 29, 3) := by decide +kernel
theorem dX8_clearText_12 : decode cX8_clearText 12 = .ok (.invokevirtual 195, 3) := by decide +kernel
theorem dX8_clearText_15 : decode cX8_clearText 15 = .ok (.iload_n 1, 1) := by decide +kernel
theorem dX8_clearText_16 : decode cX8_clearText 16 = .ok (.ireturn, 1) := by decide +kernel
set_option maxRecDepth 20000 in
theorem ggX8_undo_X2_takeBack : GoodIn wsX8_undo wsX2_takeBack := goodIn_r _ [7, 8, 9, 10, 11, 6, 12, 13, 14, 15, 16, 17, 18, 19, 20, 21, 22, 23, 24, 25, 26, 27, 28, 29, 30, 31, 32, 33, 34, 35, 36, 37, 38, 39, 40, 41, 55, 56, 57, 58, 59, 60, 61, 62, 63] (by decide +kernel) (by decide +kernel)
set_option maxRecDepth 20000 in
theorem gX8_undo_X2_takeBack : GoodIn wsX8_undo (wsV RX8 198 RX2 yX2_takeBack wsX2_takeBack) := goodIn_app (goodIn_of _ (by decide +kernel)) ggX8_undo_X2_takeBack
set_option maxRecDepth 20000 in
theorem ggX8_undo_X2_size : GoodIn wsX8_undo wsX2_size := goodIn_r _ [45, 8, 55, 56, 57] (by decide +kernel) (by decide +kernel)
set_option maxRecDepth 20000 in
theorem gX8_undo_X2_size : GoodIn wsX8_undo (wsV RX8 202 RX2 yX2_size wsX2_size) := goodIn_app (goodIn_of _ (by decide +kernel)) ggX8_undo_X2_size
theorem dX8_undo_0 : decode cX8_undo 0 = .ok (.aload_n 0, 1) := by decide +kernel
theorem dX8_undo_1 : decode cX8_undo 1 = .ok (.getfield 22, 3) := by decide +kernel
theorem dX8_undo_4 : decode cX8_undo 4 = .ok (.aload_n 0, 1) := by decide +kernel
theorem dX8_undo_5 : decode cX8_undo 5 = .ok (.getfield 10, 3) := by decide +kernel
theorem dX8_undo_8 : decode cX8_undo 8 = .ok (.invokevirtual 198, 3) := by decide +kernel
theorem dX8_undo_11 : decode cX8_undo 11 = .ok (.ifCond .eq 13, 3) := by decide +kernel
theorem dX8_undo_14 : decode cX8_undo 14 = .ok (.aload_n 0, 1) := by decide +kernel
theorem dX8_undo_15 : decode cX8_undo 15 = .ok (.getfield 22, 3) := by decide +kernel
theorem dX8_undo_18 : decode cX8_undo 18 = .ok (.invokevirtual 202, 3) := by decide +kernel
theorem dX8_undo_21 : decode cX8_undo 21 = .ok (.goto 5, 3) := by decide +kernel
theorem dX8_undo_24 : decode cX8_undo 24 = .ok (.bipush (-5), 2) := by decide +kernel
theorem dX8_undo_26 : decode cX8_undo 26 = .ok (.ireturn, 1) := by decide +kernel
set_option maxRecDepth 20000 in
theorem ggX8_keep_X4_copyFrom : GoodIn wsX8_keep wsX4_copyFrom := goodIn_r _ [8, 9, 10, 11, 12, 13, 14, 15, 16, 17, 18, 19, 20, 21, 22, 23, 24, 25, 26, 27, 28, 29, 30, 52, 53, 54, 55, 56, 57] (by decide +kernel) (by decide +kernel)
set_option maxRecDepth 20000 in
theorem gX8_keep_X4_copyFrom : GoodIn wsX8_keep (wsV RX8 203 RX4 yX4_copyFrom wsX4_copyFrom) := goodIn_app (goodIn_of _ (by decide +kernel)) ggX8_keep_X4_copyFrom
set_option maxRecDepth 20000 in
theorem ggX8_keep_X7_cards : GoodIn wsX8_keep wsX7_cards := goodIn_r _ [34, 29, 35, 36, 37, 27, 38, 39, 40, 41, 42, 57] (by decide +kernel) (by decide +kernel)
set_option maxRecDepth 20000 in
theorem gX8_keep_X7_cards : GoodIn wsX8_keep (wsV RX8 206 RX7 yX7_cards wsX7_cards) := goodIn_app (goodIn_of _ (by decide +kernel)) ggX8_keep_X7_cards
theorem dX8_keep_0 : decode cX8_keep 0 = .ok (.aload_n 0, 1) := by decide +kernel
theorem dX8_keep_1 : decode cX8_keep 1 = .ok (.getfield 16, 3) := by decide +kernel
theorem dX8_keep_4 : decode cX8_keep 4 = .ok (.aload_n 0, 1) := by decide +kernel
theorem dX8_keep_5 : decode cX8_keep 5 = .ok (.getfield 10, 3) := by decide +kernel
theorem dX8_keep_8 : decode cX8_keep 8 = .ok (.invokevirtual 203, 3) := by decide +kernel
theorem dX8_keep_11 : decode cX8_keep 11 = .ok (.aload_n 0, 1) := by decide +kernel
theorem dX8_keep_12 : decode cX8_keep 12 = .ok (.iconst 1, 1) := by decide +kernel
theorem dX8_keep_13 : decode cX8_keep 13 = .ok (.putfield 61, 3) := by decide +kernel
theorem dX8_keep_16 : decode cX8_keep 16 = .ok (.aload_n 0, 1) := by decide +kernel
theorem dX8_keep_17 : decode cX8_keep 17 = .ok (.getfield 10, 3) := by decide +kernel
theorem dX8_keep_20 : decode cX8_keep 20 = .ok (.getfield 120, 3) := by decide +kernel
theorem dX8_keep_23 : decode cX8_keep 23 = .ok (.invokevirtual 206, 3) := by decide +kernel
theorem dX8_keep_26 : decode cX8_keep 26 = .ok (.ireturn, 1) := by decide +kernel
set_option maxRecDepth 20000 in
theorem ggX8_restore_X2_record : GoodIn wsX8_restore wsX2_record := goodIn_r _ [9, 10, 11, 12, 13, 14, 8, 15, 16, 17, 18, 19, 20, 21, 22, 23, 24, 25, 26, 27, 28, 29, 30, 31, 32, 33, 34, 35, 36, 37, 38, 39, 40, 41, 42, 43, 69, 70, 71, 66, 67, 68, 72, 73, 74] (by decide +kernel) (by decide +kernel)
set_option maxRecDepth 20000 in
theorem gX8_restore_X2_record : GoodIn wsX8_restore (wsV RX8 82 RX2 yX2_record wsX2_record) := goodIn_app (goodIn_of _ (by decide +kernel)) ggX8_restore_X2_record
set_option maxRecDepth 20000 in
theorem ggX8_restore_X4_copyFrom : GoodIn wsX8_restore wsX4_copyFrom := goodIn_r _ [21, 22, 23, 24, 25, 26, 27, 28, 29, 30, 31, 32, 33, 34, 35, 36, 37, 38, 39, 40, 41, 42, 43, 66, 67, 68, 72, 73, 74] (by decide +kernel) (by decide +kernel)
set_option maxRecDepth 20000 in
theorem gX8_restore_X4_copyFrom : GoodIn wsX8_restore (wsV RX8 203 RX4 yX4_copyFrom wsX4_copyFrom) := goodIn_app (goodIn_of _ (by decide +kernel)) ggX8_restore_X4_copyFrom
set_option maxRecDepth 20000 in
theorem ggX8_restore_X7_cards : GoodIn wsX8_restore wsX7_cards := goodIn_r _ [48, 42, 49, 50, 51, 40, 52, 53, 54, 55, 56, 74] (by decide +kernel) (by decide +kernel)
set_option maxRecDepth 20000 in
theorem gX8_restore_X7_cards : GoodIn wsX8_restore (wsV RX8 206 RX7 yX7_cards wsX7_cards) := goodIn_app (goodIn_of _ (by decide +kernel)) ggX8_restore_X7_cards
theorem dX8_restore_0 : decode cX8_restore 0 = .ok (.aload_n 0, 1) := by decide +kernel
theorem dX8_restore_1 : decode cX8_restore 1 = .ok (.getfield 61, 3) := by decide +kernel
theorem dX8_restore_4 : decode cX8_restore 4 = .ok (.ifCond .ne 6, 3) := by decide +kernel
theorem dX8_restore_7 : decode cX8_restore 7 = .ok (.bipush (-5), 2) := by decide +kernel
theorem dX8_restore_9 : decode cX8_restore 9 = .ok (.ireturn, 1) := by decide +kernel
theorem dX8_restore_10 : decode cX8_restore 10 = .ok (.aload_n 0, 1) := by decide +kernel
theorem dX8_restore_11 : decode cX8_restore 11 = .ok (.getfield 22, 3) := by decide +kernel
theorem dX8_restore_14 : decode cX8_restore 14 = .ok (.aload_n 0, 1) := by decide +kernel
theorem dX8_restore_15 : decode cX8_restore 15 = .ok (.getfield 10, 3) := by decide +kernel
theorem dX8_restore_18 : decode cX8_restore 18 = .ok (.invokevirtual 82, 3) := by decide +kernel
theorem dX8_restore_21 : decode cX8_restore 21 = .ok (.aload_n 0, 1) := by decide +kernel
theorem dX8_restore_22 : decode cX8_restore 22 = .ok (.getfield 10, 3) := by decide +kernel
theorem dX8_restore_25 : decode cX8_restore 25 = .ok (.aload_n 0, 1) := by decide +kernel
theorem dX8_restore_26 : decode cX8_restore 26 = .ok (.getfield 16, 3) := by decide +kernel
theorem dX8_restore_29 : decode cX8_restore 29 = .ok (.invokevirtual 203, 3) := by decide +kernel
theorem dX8_restore_32 : decode cX8_restore 32 = .ok (.aload_n 0, 1) := by decide +kernel
theorem dX8_restore_33 : decode cX8_restore 33 = .ok (.getfield 10, 3) := by decide +kernel
theorem dX8_restore_36 : decode cX8_restore 36 = .ok (.getfield 120, 3) := by decide +kernel
theorem dX8_restore_39 : decode cX8_restore 39 = .ok (.invokevirtual 206, 3) := by decide +kernel
theorem dX8_restore_42 : decode cX8_restore 42 = .ok (.ireturn, 1) := by decide +kernel
set_option maxRecDepth 20000 in
theorem ggX8_card_X1_has : GoodIn wsX8_card wsX1_has := goodIn_r _ [7, 8, 112, 113] (by decide +kernel) (by decide +kernel)
set_option maxRecDepth 20000 in
theorem gX8_card_X1_has : GoodIn wsX8_card (wsV RX8 105 RX1 yX1_has wsX1_has) := goodIn_app (goodIn_of _ (by decide +kernel)) ggX8_card_X1_has
set_option maxRecDepth 20000 in
theorem ggX8_card_X1_number : GoodIn wsX8_card wsX1_number := goodIn_r _ [12, 13, 14, 15, 16, 6, 17, 8, 112, 113] (by decide +kernel) (by decide +kernel)
set_option maxRecDepth 20000 in
theorem gX8_card_X1_number : GoodIn wsX8_card (wsV RX8 108 RX1 yX1_number wsX1_number) := goodIn_app (goodIn_of _ (by decide +kernel)) ggX8_card_X1_number
set_option maxRecDepth 20000 in
theorem ggX8_card_X3_read : GoodIn wsX8_card wsX3_read := goodIn_r _ [22, 23, 24, 25, 26, 27, 28, 29, 30, 31, 6, 32, 8, 33, 34, 35, 36, 37, 38, 39, 40, 41, 42, 43, 44, 45, 4, 5, 7, 46, 47, 48, 21, 49, 50, 51, 52, 53, 54, 10, 11, 12, 13, 14, 15, 16, 17, 55, 56, 57, 58, 59, 60, 61, 62, 63, 64, 65, 66, 67, 68, 69, 70, 114, 115, 116, 117, 118, 119, 120, 121, 122, 123, 109, 110, 111, 112, 113, 124] (by decide +kernel) (by decide +kernel)
set_option maxRecDepth 20000 in
theorem gX8_card_X3_read : GoodIn wsX8_card (wsV RX8 144 RX3 yX3_read wsX3_read) := goodIn_app (goodIn_of _ (by decide +kernel)) ggX8_card_X3_read
set_option maxRecDepth 20000 in
theorem ggX8_card_X3_rankOf : GoodIn wsX8_card wsX3_rankOf := goodIn_r _ [74, 23, 75, 76, 77, 21, 78, 50, 79, 80, 81, 82, 114, 115, 116, 117, 118, 119, 120, 121, 122, 123] (by decide +kernel) (by decide +kernel)
set_option maxRecDepth 20000 in
theorem gX8_card_X3_rankOf : GoodIn wsX8_card (wsV RX8 208 RX3 yX3_rankOf wsX3_rankOf) := goodIn_app (goodIn_of _ (by decide +kernel)) ggX8_card_X3_rankOf
set_option maxRecDepth 20000 in
theorem ggX8_card_X3_sceneAt : GoodIn wsX8_card wsX3_sceneAt := goodIn_r _ [86, 51, 79, 80, 81, 21, 82, 23, 114, 115, 116, 117, 118, 119, 120, 121, 122, 123] (by decide +kernel) (by decide +kernel)
set_option maxRecDepth 20000 in
theorem gX8_card_X3_sceneAt : GoodIn wsX8_card (wsV RX8 211 RX3 yX3_sceneAt wsX3_sceneAt) := goodIn_app (goodIn_of _ (by decide +kernel)) ggX8_card_X3_sceneAt
set_option maxRecDepth 20000 in
theorem ggX8_card_X3_placeAt : GoodIn wsX8_card wsX3_placeAt := goodIn_r _ [90, 51, 79, 80, 81, 21, 82, 23, 114, 115, 116, 117, 118, 119, 120, 121, 122, 123] (by decide +kernel) (by decide +kernel)
set_option maxRecDepth 20000 in
theorem gX8_card_X3_placeAt : GoodIn wsX8_card (wsV RX8 214 RX3 yX3_placeAt wsX3_placeAt) := goodIn_app (goodIn_of _ (by decide +kernel)) ggX8_card_X3_placeAt
set_option maxRecDepth 20000 in
theorem ggX8_card_X3_isBreak : GoodIn wsX8_card wsX3_isBreak := goodIn_r _ [94, 53, 24, 79, 80, 81, 21, 82, 23, 54, 10, 11, 6, 12, 13, 14, 15, 16, 17, 8, 114, 115, 116, 117, 118, 119, 120, 121, 122, 123, 112, 113] (by decide +kernel) (by decide +kernel)
set_option maxRecDepth 20000 in
theorem gX8_card_X3_isBreak : GoodIn wsX8_card (wsV RX8 217 RX3 yX3_isBreak wsX3_isBreak) := goodIn_app (goodIn_of _ (by decide +kernel)) ggX8_card_X3_isBreak
set_option maxRecDepth 20000 in
theorem ggX8_card_X3_rankAhead : GoodIn wsX8_card wsX3_rankAhead := goodIn_r _ [98, 52, 79, 80, 81, 21, 82, 23, 114, 115, 116, 117, 118, 119, 120, 121, 122, 123] (by decide +kernel) (by decide +kernel)
set_option maxRecDepth 20000 in
theorem gX8_card_X3_rankAhead : GoodIn wsX8_card (wsV RX8 220 RX3 yX3_rankAhead wsX3_rankAhead) := goodIn_app (goodIn_of _ (by decide +kernel)) ggX8_card_X3_rankAhead
set_option maxRecDepth 20000 in
theorem ggX8_card_X3_cardAt : GoodIn wsX8_card wsX3_cardAt := goodIn_r _ [78, 50, 79, 80, 81, 21, 82, 23, 114, 115, 116, 117, 118, 119, 120, 121, 122, 123] (by decide +kernel) (by decide +kernel)
set_option maxRecDepth 20000 in
theorem gX8_card_X3_cardAt : GoodIn wsX8_card (wsV RX8 223 RX3 yX3_cardAt wsX3_cardAt) := goodIn_app (goodIn_of _ (by decide +kernel)) ggX8_card_X3_cardAt
theorem dX8_card_0 : decode cX8_card 0 = .ok (.aload_n 0, 1) := by decide +kernel
theorem dX8_card_1 : decode cX8_card 1 = .ok (.getfield 10, 3) := by decide +kernel
theorem dX8_card_4 : decode cX8_card 4 = .ok (.getfield 73, 3) := by decide +kernel
theorem dX8_card_7 : decode cX8_card 7 = .ok (.iload_n 1, 1) := by decide +kernel
theorem dX8_card_8 : decode cX8_card 8 = .ok (.invokevirtual 105, 3) := by decide +kernel
theorem dX8_card_11 : decode cX8_card 11 = .ok (.ifCond .ne 5, 3) := by decide +kernel
theorem dX8_card_14 : decode cX8_card 14 = .ok (.iconst (-1), 1) := by decide +kernel
theorem dX8_card_15 : decode cX8_card 15 = .ok (.ireturn, 1) := by decide +kernel
theorem dX8_card_16 : decode cX8_card 16 = .ok (.iload_n 2, 1) := by decide +kernel
theorem dX8_card_17 : decode cX8_card 17 = .ok (.ifCond .lt 21, 3) := by decide +kernel
theorem dX8_card_20 : decode cX8_card 20 = .ok (.iload_n 2, 1) := by decide +kernel
theorem dX8_card_21 : decode cX8_card 21 = .ok (.iconst 5, 1) := by decide +kernel
theorem dX8_card_22 : decode cX8_card 22 = .ok (.if_icmp .ge 16, 3) := by decide +kernel
theorem dX8_card_25 : decode cX8_card 25 = .ok (.aload_n 0, 1) := by decide +kernel
theorem dX8_card_26 : decode cX8_card 26 = .ok (.getfield 10, 3) := by decide +kernel
theorem dX8_card_29 : decode cX8_card 29 = .ok (.getfield 73, 3) := by decide +kernel
theorem dX8_card_32 : decode cX8_card 32 = .ok (.iload_n 1, 1) := by decide +kernel
theorem dX8_card_33 : decode cX8_card 33 = .ok (.iload_n 2, 1) := by decide +kernel
theorem dX8_card_34 : decode cX8_card 34 = .ok (.invokevirtual 108, 3) := by decide +kernel
theorem dX8_card_37 : decode cX8_card 37 = .ok (.ireturn, 1) := by decide +kernel
theorem dX8_card_38 : decode cX8_card 38 = .ok (.aload_n 0, 1) := by decide +kernel
theorem dX8_card_39 : decode cX8_card 39 = .ok (.getfield 43, 3) := by decide +kernel
theorem dX8_card_42 : decode cX8_card 42 = .ok (.aload_n 0, 1) := by decide +kernel
theorem dX8_card_43 : decode cX8_card 43 = .ok (.getfield 10, 3) := by decide +kernel
theorem dX8_card_46 : decode cX8_card 46 = .ok (.aload_n 0, 1) := by decide +kernel
theorem dX8_card_47 : decode cX8_card 47 = .ok (.getfield 10, 3) := by decide +kernel
theorem dX8_card_50 : decode cX8_card 50 = .ok (.getfield 120, 3) := by decide +kernel
theorem dX8_card_53 : decode cX8_card 53 = .ok (.invokevirtual 144, 3) := by decide +kernel
theorem dX8_card_56 : decode cX8_card 56 = .ok (.aload_n 0, 1) := by decide +kernel
theorem dX8_card_57 : decode cX8_card 57 = .ok (.getfield 43, 3) := by decide +kernel
theorem dX8_card_60 : decode cX8_card 60 = .ok (.iload_n 1, 1) := by decide +kernel
theorem dX8_card_61 : decode cX8_card 61 = .ok (.invokevirtual 208, 3) := by decide +kernel
theorem dX8_card_64 : decode cX8_card 64 = .ok (.istore_n 3, 1) := by decide +kernel
theorem dX8_card_65 : decode cX8_card 65 = .ok (.iload_n 2, 1) := by decide +kernel
theorem dX8_card_66 : decode cX8_card 66 = .ok (.tableswitch 87 5 9 #[34, 43, 52, 69, 71], 34) := by decide +kernel
theorem dX8_card_100 : decode cX8_card 100 = .ok (.aload_n 0, 1) := by decide +kernel
theorem dX8_card_101 : decode cX8_card 101 = .ok (.getfield 43, 3) := by decide +kernel
theorem dX8_card_104 : decode cX8_card 104 = .ok (.iload_n 3, 1) := by decide +kernel
theorem dX8_card_105 : decode cX8_card 105 = .ok (.invokevirtual 211, 3) := by decide +kernel
theorem dX8_card_108 : decode cX8_card 108 = .ok (.ireturn, 1) := by decide +kernel
theorem dX8_card_109 : decode cX8_card 109 = .ok (.aload_n 0, 1) := by decide +kernel
theorem dX8_card_110 : decode cX8_card 110 = .ok (.getfield 43, 3) := by decide +kernel
theorem dX8_card_113 : decode cX8_card 113 = .ok (.iload_n 3, 1) := by decide +kernel
theorem dX8_card_114 : decode cX8_card 114 = .ok (.invokevirtual 214, 3) := by decide +kernel
theorem dX8_card_117 : decode cX8_card 117 = .ok (.ireturn, 1) := by decide +kernel
theorem dX8_card_118 : decode cX8_card 118 = .ok (.aload_n 0, 1) := by decide +kernel
theorem dX8_card_119 : decode cX8_card 119 = .ok (.getfield 43, 3) := by decide +kernel
theorem dX8_card_122 : decode cX8_card 122 = .ok (.iload_n 3, 1) := by decide +kernel
theorem dX8_card_123 : decode cX8_card 123 = .ok (.invokevirtual 217, 3) := by decide +kernel
theorem dX8_card_126 : decode cX8_card 126 = .ok (.ifCond .eq 7, 3) := by decide +kernel
theorem dX8_card_129 : decode cX8_card 129 = .ok (.iconst 1, 1) := by decide +kernel
theorem dX8_card_130 : decode cX8_card 130 = .ok (.goto 4, 3) := by decide +kernel
theorem dX8_card_133 : decode cX8_card 133 = .ok (.iconst 0, 1) := by decide +kernel
theorem dX8_card_134 : decode cX8_card 134 = .ok (.ireturn, 1) := by decide +kernel
theorem dX8_card_135 : decode cX8_card 135 = .ok (.iload_n 3, 1) := by decide +kernel
theorem dX8_card_136 : decode cX8_card 136 = .ok (.ireturn, 1) := by decide +kernel
theorem dX8_card_137 : decode cX8_card 137 = .ok (.aload_n 0, 1) := by decide +kernel
theorem dX8_card_138 : decode cX8_card 138 = .ok (.getfield 43, 3) := by decide +kernel
theorem dX8_card_141 : decode cX8_card 141 = .ok (.aload_n 0, 1) := by decide +kernel
theorem dX8_card_142 : decode cX8_card 142 = .ok (.getfield 43, 3) := by decide +kernel
theorem dX8_card_145 : decode cX8_card 145 = .ok (.iload_n 3, 1) := by decide +kernel
theorem dX8_card_146 : decode cX8_card 146 = .ok (.invokevirtual 220, 3) := by decide +kernel
theorem dX8_card_149 : decode cX8_card 149 = .ok (.invokevirtual 223, 3) := by decide +kernel
theorem dX8_card_152 : decode cX8_card 152 = .ok (.ireturn, 1) := by decide +kernel
theorem dX8_card_153 : decode cX8_card 153 = .ok (.bipush (-2), 2) := by decide +kernel
theorem dX8_card_155 : decode cX8_card 155 = .ok (.ireturn, 1) := by decide +kernel
set_option maxRecDepth 20000 in
theorem ggX8_at_X8_isScene : GoodIn wsX8_at wsX8_isScene := goodIn_r _ [5] (by decide +kernel) (by decide +kernel)
set_option maxRecDepth 20000 in
theorem gX8_at_X8_isScene : GoodIn wsX8_at (va_wsS RX8 161 yX8_isScene wsX8_isScene) := goodIn_app (goodIn_of _ (by decide +kernel)) ggX8_at_X8_isScene
set_option maxRecDepth 20000 in
theorem ggX8_at_X7_cardIn : GoodIn wsX8_at wsX7_cardIn := goodIn_r _ [10, 3, 4, 5, 11, 12, 13, 14, 15, 9, 16, 17, 30] (by decide +kernel) (by decide +kernel)
set_option maxRecDepth 20000 in
theorem gX8_at_X7_cardIn : GoodIn wsX8_at (wsV RX8 226 RX7 yX7_cardIn wsX7_cardIn) := goodIn_app (goodIn_of _ (by decide +kernel)) ggX8_at_X7_cardIn
theorem dX8_at_0 : decode cX8_at 0 = .ok (.iload_n 1, 1) := by decide +kernel
theorem dX8_at_1 : decode cX8_at 1 = .ok (.invokestatic 161, 3) := by decide +kernel
theorem dX8_at_4 : decode cX8_at 4 = .ok (.ifCond .ne 5, 3) := by decide +kernel
theorem dX8_at_7 : decode cX8_at 7 = .ok (.iconst (-1), 1) := by decide +kernel
theorem dX8_at_8 : decode cX8_at 8 = .ok (.ireturn, 1) := by decide +kernel
theorem dX8_at_9 : decode cX8_at 9 = .ok (.iload_n 2, 1) := by decide +kernel
theorem dX8_at_10 : decode cX8_at 10 = .ok (.ifCond .ge 6, 3) := by decide +kernel
theorem dX8_at_13 : decode cX8_at 13 = .ok (.bipush (-2), 2) := by decide +kernel
theorem dX8_at_15 : decode cX8_at 15 = .ok (.ireturn, 1) := by decide +kernel
theorem dX8_at_16 : decode cX8_at 16 = .ok (.aload_n 0, 1) := by decide +kernel
theorem dX8_at_17 : decode cX8_at 17 = .ok (.getfield 10, 3) := by decide +kernel
theorem dX8_at_20 : decode cX8_at 20 = .ok (.getfield 120, 3) := by decide +kernel
theorem dX8_at_23 : decode cX8_at 23 = .ok (.iload_n 1, 1) := by decide +kernel
theorem dX8_at_24 : decode cX8_at 24 = .ok (.iload_n 2, 1) := by decide +kernel
theorem dX8_at_25 : decode cX8_at 25 = .ok (.invokevirtual 226, 3) := by decide +kernel
theorem dX8_at_28 : decode cX8_at 28 = .ok (.ireturn, 1) := by decide +kernel
set_option maxRecDepth 20000 in
theorem ggX8_thread_X8_isThread : GoodIn wsX8_thread wsX8_isThread := goodIn_r _ [7] (by decide +kernel) (by decide +kernel)
set_option maxRecDepth 20000 in
theorem gX8_thread_X8_isThread : GoodIn wsX8_thread (va_wsS RX8 65 yX8_isThread wsX8_isThread) := goodIn_app (goodIn_of _ (by decide +kernel)) ggX8_thread_X8_isThread
set_option maxRecDepth 20000 in
theorem ggX8_thread_X3_read : GoodIn wsX8_thread wsX3_read := goodIn_r _ [12, 13, 14, 15, 16, 17, 18, 19, 20, 21, 22, 23, 24, 25, 26, 27, 28, 29, 30, 31, 32, 33, 34, 35, 36, 37, 38, 39, 40, 41, 42, 43, 11, 44, 45, 46, 47, 48, 49, 50, 51, 52, 53, 54, 55, 56, 57, 5, 6, 7, 58, 59, 60, 61, 62, 63, 64, 65, 66, 67, 68, 69, 70, 164, 165, 166, 167, 168, 169, 170, 171, 172, 173, 161, 162, 163, 174, 175, 176] (by decide +kernel) (by decide +kernel)
set_option maxRecDepth 20000 in
theorem gX8_thread_X3_read : GoodIn wsX8_thread (wsV RX8 144 RX3 yX3_read wsX3_read) := goodIn_app (goodIn_of _ (by decide +kernel)) ggX8_thread_X3_read
set_option maxRecDepth 20000 in
theorem ggX8_thread_X3_tally : GoodIn wsX8_thread wsX3_tally := goodIn_r _ [74, 13, 75, 76, 77, 11, 78, 14, 49, 50, 51, 22, 52, 53, 54, 55, 56, 57, 24, 79, 80, 81, 82, 46, 83, 84, 85, 86, 87, 88, 89, 90, 91, 92, 93, 94, 95, 96, 97, 98, 48, 99, 100, 101, 102, 15, 103, 104, 105, 106, 47, 107, 108, 109, 110, 16, 164, 165, 166, 167, 168, 169, 170, 171, 172, 173, 174, 175] (by decide +kernel) (by decide +kernel)
set_option maxRecDepth 20000 in
theorem gX8_thread_X3_tally : GoodIn wsX8_thread (wsV RX8 229 RX3 yX3_tally wsX3_tally) := goodIn_app (goodIn_of _ (by decide +kernel)) ggX8_thread_X3_tally
set_option maxRecDepth 20000 in
theorem ggX8_thread_X1_ofThread : GoodIn wsX8_thread wsX1_ofThread := goodIn_r _ [114, 24, 66, 50, 51, 22, 52, 53, 54, 55, 56, 57, 174, 175] (by decide +kernel) (by decide +kernel)
set_option maxRecDepth 20000 in
theorem gX8_thread_X1_ofThread : GoodIn wsX8_thread (wsV RX8 232 RX1 yX1_ofThread wsX1_ofThread) := goodIn_app (goodIn_of _ (by decide +kernel)) ggX8_thread_X1_ofThread
set_option maxRecDepth 20000 in
theorem ggX8_thread_X5_gather : GoodIn wsX8_thread wsX5_gather := goodIn_r _ [119, 120, 121, 122, 123, 124, 125, 126, 127, 11, 128, 13, 129, 76, 77, 78, 14, 49, 50, 51, 22, 52, 53, 54, 55, 56, 57, 24, 130, 92, 93, 94, 131, 132, 133, 134, 45, 83, 84, 85, 86, 135, 136, 137, 138, 139, 140, 141, 142, 46, 177, 178, 179, 180, 181, 182, 183, 164, 165, 166, 167, 168, 169, 170, 171, 172, 173, 174, 175] (by decide +kernel) (by decide +kernel)
set_option maxRecDepth 20000 in
theorem gX8_thread_X5_gather : GoodIn wsX8_thread (wsV RX8 147 RX5 yX5_gather wsX5_gather) := goodIn_app (goodIn_of _ (by decide +kernel)) ggX8_thread_X5_gather
set_option maxRecDepth 20000 in
theorem ggX8_thread_X5_fewestMoves : GoodIn wsX8_thread wsX5_fewestMoves := goodIn_r _ [146, 120, 123, 147, 148, 149, 150, 151, 177, 178, 179, 180, 181, 182, 183] (by decide +kernel) (by decide +kernel)
set_option maxRecDepth 20000 in
theorem gX8_thread_X5_fewestMoves : GoodIn wsX8_thread (wsV RX8 235 RX5 yX5_fewestMoves wsX5_fewestMoves) := goodIn_app (goodIn_of _ (by decide +kernel)) ggX8_thread_X5_fewestMoves
theorem dX8_thread_0 : decode cX8_thread 0 = .ok (.iload_n 1, 1) := by decide +kernel
theorem dX8_thread_1 : decode cX8_thread 1 = .ok (.invokestatic 65, 3) := by decide +kernel
theorem dX8_thread_4 : decode cX8_thread 4 = .ok (.ifCond .ne 5, 3) := by decide +kernel
theorem dX8_thread_7 : decode cX8_thread 7 = .ok (.iconst (-1), 1) := by decide +kernel
theorem dX8_thread_8 : decode cX8_thread 8 = .ok (.ireturn, 1) := by decide +kernel
theorem dX8_thread_9 : decode cX8_thread 9 = .ok (.aload_n 0, 1) := by decide +kernel
theorem dX8_thread_10 : decode cX8_thread 10 = .ok (.getfield 43, 3) := by decide +kernel
theorem dX8_thread_13 : decode cX8_thread 13 = .ok (.aload_n 0, 1) := by decide +kernel
theorem dX8_thread_14 : decode cX8_thread 14 = .ok (.getfield 10, 3) := by decide +kernel
theorem dX8_thread_17 : decode cX8_thread 17 = .ok (.aload_n 0, 1) := by decide +kernel
theorem dX8_thread_18 : decode cX8_thread 18 = .ok (.getfield 10, 3) := by decide +kernel
theorem dX8_thread_21 : decode cX8_thread 21 = .ok (.getfield 120, 3) := by decide +kernel
theorem dX8_thread_24 : decode cX8_thread 24 = .ok (.invokevirtual 144, 3) := by decide +kernel
theorem dX8_thread_27 : decode cX8_thread 27 = .ok (.iload_n 2, 1) := by decide +kernel
theorem dX8_thread_28 : decode cX8_thread 28 = .ok (.tableswitch 163 0 7 #[48, 60, 84, 96, 108, 128, 140, 152], 48) := by decide +kernel
theorem dX8_thread_76 : decode cX8_thread 76 = .ok (.aload_n 0, 1) := by decide +kernel
theorem dX8_thread_77 : decode cX8_thread 77 = .ok (.getfield 43, 3) := by decide +kernel
theorem dX8_thread_80 : decode cX8_thread 80 = .ok (.bipush 10, 2) := by decide +kernel
theorem dX8_thread_82 : decode cX8_thread 82 = .ok (.iload_n 1, 1) := by decide +kernel
theorem dX8_thread_83 : decode cX8_thread 83 = .ok (.iconst (-1), 1) := by decide +kernel
theorem dX8_thread_84 : decode cX8_thread 84 = .ok (.invokevirtual 229, 3) := by decide +kernel
theorem dX8_thread_87 : decode cX8_thread 87 = .ok (.ireturn, 1) := by decide +kernel
theorem dX8_thread_88 : decode cX8_thread 88 = .ok (.aload_n 0, 1) := by decide +kernel
theorem dX8_thread_89 : decode cX8_thread 89 = .ok (.getfield 10, 3) := by decide +kernel
theorem dX8_thread_92 : decode cX8_thread 92 = .ok (.getfield 73, 3) := by decide +kernel
theorem dX8_thread_95 : decode cX8_thread 95 = .ok (.iload_n 1, 1) := by decide +kernel
theorem dX8_thread_96 : decode cX8_thread 96 = .ok (.invokevirtual 232, 3) := by decide +kernel
theorem dX8_thread_99 : decode cX8_thread 99 = .ok (.aload_n 0, 1) := by decide +kernel
theorem dX8_thread_100 : decode cX8_thread 100 = .ok (.getfield 43, 3) := by decide +kernel
theorem dX8_thread_103 : decode cX8_thread 103 = .ok (.bipush 10, 2) := by decide +kernel
theorem dX8_thread_105 : decode cX8_thread 105 = .ok (.iload_n 1, 1) := by decide +kernel
theorem dX8_thread_106 : decode cX8_thread 106 = .ok (.iconst (-1), 1) := by decide +kernel
theorem dX8_thread_107 : decode cX8_thread 107 = .ok (.invokevirtual 229, 3) := by decide +kernel
theorem dX8_thread_110 : decode cX8_thread 110 = .ok (.isub, 1) := by decide +kernel
theorem dX8_thread_111 : decode cX8_thread 111 = .ok (.ireturn, 1) := by decide +kernel
theorem dX8_thread_112 : decode cX8_thread 112 = .ok (.aload_n 0, 1) := by decide +kernel
theorem dX8_thread_113 : decode cX8_thread 113 = .ok (.getfield 43, 3) := by decide +kernel
theorem dX8_thread_116 : decode cX8_thread 116 = .ok (.bipush 11, 2) := by decide +kernel
theorem dX8_thread_118 : decode cX8_thread 118 = .ok (.iload_n 1, 1) := by decide +kernel
theorem dX8_thread_119 : decode cX8_thread 119 = .ok (.iconst (-1), 1) := by decide +kernel
theorem dX8_thread_120 : decode cX8_thread 120 = .ok (.invokevirtual 229, 3) := by decide +kernel
theorem dX8_thread_123 : decode cX8_thread 123 = .ok (.ireturn, 1) := by decide +kernel
theorem dX8_thread_124 : decode cX8_thread 124 = .ok (.aload_n 0, 1) := by decide +kernel
theorem dX8_thread_125 : decode cX8_thread 125 = .ok (.getfield 43, 3) := by decide +kernel
theorem dX8_thread_128 : decode cX8_thread 128 = .ok (.bipush 12, 2) := by decide +kernel
theorem dX8_thread_130 : decode cX8_thread 130 = .ok (.iload_n 1, 1) := by decide +kernel
theorem dX8_thread_131 : decode cX8_thread 131 = .ok (.iconst (-1), 1) := by decide +kernel
theorem dX8_thread_132 : decode cX8_thread 132 = .ok (.invokevirtual 229, 3) := by decide +kernel
theorem dX8_thread_135 : decode cX8_thread 135 = .ok (.ireturn, 1) := by decide +kernel
theorem dX8_thread_136 : decode cX8_thread 136 = .ok (.aload_n 0, 1) := by decide +kernel
theorem dX8_thread_137 : decode cX8_thread 137 = .ok (.getfield 50, 3) := by decide +kernel
theorem dX8_thread_140 : decode cX8_thread 140 = .ok (.aload_n 0, 1) := by decide +kernel
theorem dX8_thread_141 : decode cX8_thread 141 = .ok (.getfield 43, 3) := by decide +kernel
theorem dX8_thread_144 : decode cX8_thread 144 = .ok (.iload_n 1, 1) := by decide +kernel
theorem dX8_thread_145 : decode cX8_thread 145 = .ok (.invokevirtual 147, 3) := by decide +kernel
theorem dX8_thread_148 : decode cX8_thread 148 = .ok (.aload_n 0, 1) := by decide +kernel
theorem dX8_thread_149 : decode cX8_thread 149 = .ok (.getfield 50, 3) := by decide +kernel
theorem dX8_thread_152 : decode cX8_thread 152 = .ok (.invokevirtual 235, 3) := by decide +kernel
theorem dX8_thread_155 : decode cX8_thread 155 = .ok (.ireturn, 1) := by decide +kernel
theorem dX8_thread_156 : decode cX8_thread 156 = .ok (.aload_n 0, 1) := by decide +kernel
theorem dX8_thread_157 : decode cX8_thread 157 = .ok (.getfield 43, 3) := by decide +kernel
theorem dX8_thread_160 : decode cX8_thread 160 = .ok (.bipush 13, 2) := by decide +kernel
theorem dX8_thread_162 : decode cX8_thread 162 = .ok (.iload_n 1, 1) := by decide +kernel
theorem dX8_thread_163 : decode cX8_thread 163 = .ok (.iconst (-1), 1) := by decide +kernel
theorem dX8_thread_164 : decode cX8_thread 164 = .ok (.invokevirtual 229, 3) := by decide +kernel
theorem dX8_thread_167 : decode cX8_thread 167 = .ok (.ireturn, 1) := by decide +kernel
theorem dX8_thread_168 : decode cX8_thread 168 = .ok (.aload_n 0, 1) := by decide +kernel
theorem dX8_thread_169 : decode cX8_thread 169 = .ok (.getfield 43, 3) := by decide +kernel
theorem dX8_thread_172 : decode cX8_thread 172 = .ok (.bipush 14, 2) := by decide +kernel
theorem dX8_thread_174 : decode cX8_thread 174 = .ok (.iload_n 1, 1) := by decide +kernel
theorem dX8_thread_175 : decode cX8_thread 175 = .ok (.iconst (-1), 1) := by decide +kernel
theorem dX8_thread_176 : decode cX8_thread 176 = .ok (.invokevirtual 229, 3) := by decide +kernel
theorem dX8_thread_179 : decode cX8_thread 179 = .ok (.ireturn, 1) := by decide +kernel
theorem dX8_thread_180 : decode cX8_thread 180 = .ok (.aload_n 0, 1) := by decide +kernel
theorem dX8_thread_181 : decode cX8_thread 181 = .ok (.getfield 43, 3) := by decide +kernel
theorem dX8_thread_184 : decode cX8_thread 184 = .ok (.iconst 2, 1) := by decide +kernel
theorem dX8_thread_185 : decode cX8_thread 185 = .ok (.iload_n 1, 1) := by decide +kernel
theorem dX8_thread_186 : decode cX8_thread 186 = .ok (.iconst (-1), 1) := by decide +kernel
theorem dX8_thread_187 : decode cX8_thread 187 = .ok (.invokevirtual 229, 3) := by decide +kernel
theorem dX8_thread_190 : decode cX8_thread 190 = .ok (.ireturn, 1) := by decide +kernel
theorem dX8_thread_191 : decode cX8_thread 191 = .ok (.bipush (-2), 2) := by decide +kernel
theorem dX8_thread_193 : decode cX8_thread 193 = .ok (.ireturn, 1) := by decide +kernel
set_option maxRecDepth 20000 in
theorem ggX8_scene_X8_isScene : GoodIn wsX8_scene wsX8_isScene := goodIn_r _ [7] (by decide +kernel) (by decide +kernel)
set_option maxRecDepth 20000 in
theorem gX8_scene_X8_isScene : GoodIn wsX8_scene (va_wsS RX8 161 yX8_isScene wsX8_isScene) := goodIn_app (goodIn_of _ (by decide +kernel)) ggX8_scene_X8_isScene
set_option maxRecDepth 20000 in
theorem ggX8_scene_X3_read : GoodIn wsX8_scene wsX3_read := goodIn_r _ [12, 13, 14, 15, 16, 17, 18, 19, 20, 21, 22, 23, 24, 25, 26, 27, 28, 29, 30, 31, 32, 33, 34, 35, 36, 37, 38, 39, 40, 41, 42, 43, 11, 44, 45, 46, 47, 48, 49, 50, 51, 52, 53, 54, 55, 56, 57, 58, 6, 59, 60, 61, 62, 63, 64, 65, 66, 67, 68, 69, 70, 71, 72, 178, 179, 180, 181, 182, 183, 184, 185, 186, 187, 175, 176, 177, 188, 189, 190] (by decide +kernel) (by decide +kernel)
set_option maxRecDepth 20000 in
theorem gX8_scene_X3_read : GoodIn wsX8_scene (wsV RX8 144 RX3 yX3_read wsX3_read) := goodIn_app (goodIn_of _ (by decide +kernel)) ggX8_scene_X3_read
set_option maxRecDepth 20000 in
theorem ggX8_scene_X6_measure : GoodIn wsX8_scene wsX6_measure := goodIn_r _ [77, 78, 79, 80, 81, 82, 26, 27, 28, 29, 30, 83, 84, 85, 34, 86, 87, 88, 89, 90, 5, 6, 7, 91, 92, 93, 32, 33, 35, 36, 94, 95, 76, 96, 97, 98, 50, 51, 22, 52, 53, 54, 55, 56, 57, 24, 99, 100, 101, 102, 103, 104, 105, 106, 191, 192, 175, 176, 177, 190, 188, 189] (by decide +kernel) (by decide +kernel)
set_option maxRecDepth 20000 in
theorem gX8_scene_X6_measure : GoodIn wsX8_scene (wsV RX8 238 RX6 yX6_measure wsX6_measure) := goodIn_app (goodIn_of _ (by decide +kernel)) ggX8_scene_X6_measure
set_option maxRecDepth 20000 in
theorem ggX8_scene_X7_sizeOf : GoodIn wsX8_scene wsX7_sizeOf := goodIn_r _ [86, 87, 88, 89, 34, 90, 5, 6, 7, 91, 92, 93, 32, 33, 35, 36, 190] (by decide +kernel) (by decide +kernel)
set_option maxRecDepth 20000 in
theorem gX8_scene_X7_sizeOf : GoodIn wsX8_scene (wsV RX8 164 RX7 yX7_sizeOf wsX7_sizeOf) := goodIn_app (goodIn_of _ (by decide +kernel)) ggX8_scene_X7_sizeOf
set_option maxRecDepth 20000 in
theorem ggX8_scene_X3_tally : GoodIn wsX8_scene wsX3_tally := goodIn_r _ [111, 13, 112, 113, 114, 11, 115, 14, 49, 50, 51, 22, 52, 53, 54, 55, 56, 57, 24, 116, 117, 118, 119, 46, 120, 121, 122, 123, 124, 125, 126, 127, 128, 129, 130, 131, 132, 133, 134, 135, 48, 136, 137, 138, 139, 15, 140, 141, 142, 143, 47, 144, 145, 146, 147, 16, 178, 179, 180, 181, 182, 183, 184, 185, 186, 187, 188, 189] (by decide +kernel) (by decide +kernel)
set_option maxRecDepth 20000 in
theorem gX8_scene_X3_tally : GoodIn wsX8_scene (wsV RX8 229 RX3 yX3_tally wsX3_tally) := goodIn_app (goodIn_of _ (by decide +kernel)) ggX8_scene_X3_tally
set_option maxRecDepth 20000 in
theorem ggX8_scene_X3_threadsIn : GoodIn wsX8_scene wsX3_threadsIn := goodIn_r _ [151, 13, 14, 116, 117, 118, 11, 119, 46, 120, 121, 122, 123, 49, 50, 51, 22, 52, 53, 54, 55, 56, 57, 24, 178, 179, 180, 181, 182, 183, 184, 185, 186, 187, 188, 189] (by decide +kernel) (by decide +kernel)
set_option maxRecDepth 20000 in
theorem gX8_scene_X3_threadsIn : GoodIn wsX8_scene (wsV RX8 241 RX3 yX3_threadsIn wsX3_threadsIn) := goodIn_app (goodIn_of _ (by decide +kernel)) ggX8_scene_X3_threadsIn
set_option maxRecDepth 20000 in
theorem ggX8_scene_X7_isHole : GoodIn wsX8_scene wsX7_isHole := goodIn_r _ [155, 156, 84, 85, 34, 86, 87, 88, 89, 90, 5, 6, 7, 91, 92, 93, 32, 33, 35, 36, 157, 158, 159, 160, 190] (by decide +kernel) (by decide +kernel)
set_option maxRecDepth 20000 in
theorem gX8_scene_X7_isHole : GoodIn wsX8_scene (wsV RX8 244 RX7 yX7_isHole wsX7_isHole) := goodIn_app (goodIn_of _ (by decide +kernel)) ggX8_scene_X7_isHole
set_option maxRecDepth 20000 in
theorem ggX8_scene_X6_rises : GoodIn wsX8_scene wsX6_rises := goodIn_r _ [164, 103, 104, 105, 76, 106, 81, 191, 192] (by decide +kernel) (by decide +kernel)
set_option maxRecDepth 20000 in
theorem gX8_scene_X6_rises : GoodIn wsX8_scene (wsV RX8 247 RX6 yX6_rises wsX6_rises) := goodIn_app (goodIn_of _ (by decide +kernel)) ggX8_scene_X6_rises
set_option maxRecDepth 20000 in
theorem ggX8_scene_X6_climbTo : GoodIn wsX8_scene wsX6_climbTo := goodIn_r _ [106, 81, 191, 192] (by decide +kernel) (by decide +kernel)
set_option maxRecDepth 20000 in
theorem gX8_scene_X6_climbTo : GoodIn wsX8_scene (wsV RX8 250 RX6 yX6_climbTo wsX6_climbTo) := goodIn_app (goodIn_of _ (by decide +kernel)) ggX8_scene_X6_climbTo
theorem dX8_scene_0 : decode cX8_scene 0 = .ok (.iload_n 1, 1) := by decide +kernel
theorem dX8_scene_1 : decode cX8_scene 1 = .ok (.invokestatic 161, 3) := by decide +kernel
theorem dX8_scene_4 : decode cX8_scene 4 = .ok (.ifCond .ne 5, 3) := by decide +kernel
theorem dX8_scene_7 : decode cX8_scene 7 = .ok (.iconst (-1), 1) := by decide +kernel
theorem dX8_scene_8 : decode cX8_scene 8 = .ok (.ireturn, 1) := by decide +kernel
theorem dX8_scene_9 : decode cX8_scene 9 = .ok (.aload_n 0, 1) := by decide +kernel
theorem dX8_scene_10 : decode cX8_scene 10 = .ok (.getfield 43, 3) := by decide +kernel
theorem dX8_scene_13 : decode cX8_scene 13 = .ok (.aload_n 0, 1) := by decide +kernel
theorem dX8_scene_14 : decode cX8_scene 14 = .ok (.getfield 10, 3) := by decide +kernel
theorem dX8_scene_17 : decode cX8_scene 17 = .ok (.aload_n 0, 1) := by decide +kernel
theorem dX8_scene_18 : decode cX8_scene 18 = .ok (.getfield 10, 3) := by decide +kernel
theorem dX8_scene_21 : decode cX8_scene 21 = .ok (.getfield 120, 3) := by decide +kernel
theorem dX8_scene_24 : decode cX8_scene 24 = .ok (.invokevirtual 144, 3) := by decide +kernel
theorem dX8_scene_27 : decode cX8_scene 27 = .ok (.aload_n 0, 1) := by decide +kernel
theorem dX8_scene_28 : decode cX8_scene 28 = .ok (.getfield 57, 3) := by decide +kernel
theorem dX8_scene_31 : decode cX8_scene 31 = .ok (.aload_n 0, 1) := by decide +kernel
theorem dX8_scene_32 : decode cX8_scene 32 = .ok (.getfield 10, 3) := by decide +kernel
theorem dX8_scene_35 : decode cX8_scene 35 = .ok (.invokevirtual 238, 3) := by decide +kernel
theorem dX8_scene_38 : decode cX8_scene 38 = .ok (.iload_n 2, 1) := by decide +kernel
theorem dX8_scene_39 : decode cX8_scene 39 = .ok (.tableswitch 131 0 6 #[41, 53, 64, 73, 93, 110, 122], 41) := by decide +kernel
theorem dX8_scene_80 : decode cX8_scene 80 = .ok (.aload_n 0, 1) := by decide +kernel
theorem dX8_scene_81 : decode cX8_scene 81 = .ok (.getfield 10, 3) := by decide +kernel
theorem dX8_scene_84 : decode cX8_scene 84 = .ok (.getfield 120, 3) := by decide +kernel
theorem dX8_scene_87 : decode cX8_scene 87 = .ok (.iload_n 1, 1) := by decide +kernel
theorem dX8_scene_88 : decode cX8_scene 88 = .ok (.invokevirtual 164, 3) := by decide +kernel
theorem dX8_scene_91 : decode cX8_scene 91 = .ok (.ireturn, 1) := by decide +kernel
