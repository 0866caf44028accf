theorem dX8_scene_92 : decode cX8_scene 92 = .ok (.aload_n 0, 1) := by decide +kernel
theorem dX8_scene_93 : decode cX8_scene 93 = .ok (.getfield 43, 3) := by decide +kernel
theorem dX8_scene_96 : decode cX8_scene 96 = .ok (.iconst 2, 1) := by decide +kernel
theorem dX8_scene_97 : decode cX8_scene 97 = .ok (.iconst (-1), 1) := by decide +kernel
theorem dX8_scene_98 : decode cX8_scene 98 = .ok (.iload_n 1, 1) := by decide +kernel
theorem dX8_scene_99 : decode cX8_scene 99 = .ok (.invokevirtual 229, 3) := by decide +kernel
theorem dX8_scene_102 : decode cX8_scene 102 = .ok (.ireturn, 1) := by decide +kernel
theorem dX8_scene_103 : decode cX8_scene 103 = .ok (.aload_n 0, 1) := by decide +kernel
theorem dX8_scene_104 : decode cX8_scene 104 = .ok (.getfield 43, 3) := by decide +kernel
theorem dX8_scene_107 : decode cX8_scene 107 = .ok (.iload_n 1, 1) := by decide +kernel
theorem dX8_scene_108 : decode cX8_scene 108 = .ok (.invokevirtual 241, 3) := by decide +kernel
theorem dX8_scene_111 : decode cX8_scene 111 = .ok (.ireturn, 1) := by decide +kernel
theorem dX8_scene_112 : decode cX8_scene 112 = .ok (.aload_n 0, 1) := by decide +kernel
theorem dX8_scene_113 : decode cX8_scene 113 = .ok (.getfield 10, 3) := by decide +kernel
theorem dX8_scene_116 : decode cX8_scene 116 = .ok (.getfield 120, 3) := by decide +kernel
theorem dX8_scene_119 : decode cX8_scene 119 = .ok (.iload_n 1, 1) := by decide +kernel
theorem dX8_scene_120 : decode cX8_scene 120 = .ok (.invokevirtual 244, 3) := by decide +kernel
theorem dX8_scene_123 : decode cX8_scene 123 = .ok (.ifCond .eq 7, 3) := by decide +kernel
theorem dX8_scene_126 : decode cX8_scene 126 = .ok (.iconst 1, 1) := by decide +kernel
theorem dX8_scene_127 : decode cX8_scene 127 = .ok (.goto 4, 3) := by decide +kernel
theorem dX8_scene_130 : decode cX8_scene 130 = .ok (.iconst 0, 1) := by decide +kernel
theorem dX8_scene_131 : decode cX8_scene 131 = .ok (.ireturn, 1) := by decide +kernel
theorem dX8_scene_132 : decode cX8_scene 132 = .ok (.aload_n 0, 1) := by decide +kernel
theorem dX8_scene_133 : decode cX8_scene 133 = .ok (.getfield 57, 3) := by decide +kernel
theorem dX8_scene_136 : decode cX8_scene 136 = .ok (.iload_n 1, 1) := by decide +kernel
theorem dX8_scene_137 : decode cX8_scene 137 = .ok (.invokevirtual 247, 3) := by decide +kernel
theorem dX8_scene_140 : decode cX8_scene 140 = .ok (.ifCond .eq 7, 3) := by decide +kernel
theorem dX8_scene_143 : decode cX8_scene 143 = .ok (.iconst 1, 1) := by decide +kernel
theorem dX8_scene_144 : decode cX8_scene 144 = .ok (.goto 4, 3) := by decide +kernel
theorem dX8_scene_147 : decode cX8_scene 147 = .ok (.iconst 0, 1) := by decide +kernel
theorem dX8_scene_148 : decode cX8_scene 148 = .ok (.ireturn, 1) := by decide +kernel
theorem dX8_scene_149 : decode cX8_scene 149 = .ok (.aload_n 0, 1) := by decide +kernel
theorem dX8_scene_150 : decode cX8_scene 150 = .ok (.getfield 43, 3) := by decide +kernel
theorem dX8_scene_153 : decode cX8_scene 153 = .ok (.bipush 12, 2) := by decide +kernel
theorem dX8_scene_155 : decode cX8_scene 155 = .ok (.iconst (-1), 1) := by decide +kernel
theorem dX8_scene_156 : decode cX8_scene 156 = .ok (.iload_n 1, 1) := by decide +kernel
theorem dX8_scene_157 : decode cX8_scene 157 = .ok (.invokevirtual 229, 3) := by decide +kernel
theorem dX8_scene_160 : decode cX8_scene 160 = .ok (.ireturn, 1) := by decide +kernel
theorem dX8_scene_161 : decode cX8_scene 161 = .ok (.aload_n 0, 1) := by decide +kernel
theorem dX8_scene_162 : decode cX8_scene 162 = .ok (.getfield 57, 3) := by decide +kernel
theorem dX8_scene_165 : decode cX8_scene 165 = .ok (.iload_n 1, 1) := by decide +kernel
theorem dX8_scene_166 : decode cX8_scene 166 = .ok (.invokevirtual 250, 3) := by decide +kernel
theorem dX8_scene_169 : decode cX8_scene 169 = .ok (.ireturn, 1) := by decide +kernel
theorem dX8_scene_170 : decode cX8_scene 170 = .ok (.bipush (-2), 2) := by decide +kernel
theorem dX8_scene_172 : decode cX8_scene 172 = .ok (.ireturn, 1) := by decide +kernel
set_option maxRecDepth 20000 in
theorem ggX8_tension_X6_measure : GoodIn wsX8_tension wsX6_measure := goodIn_r _ [7, 8, 9, 10, 11, 12, 13, 14, 15, 16, 17, 18, 19, 20, 21, 22, 23, 24, 25, 26, 27, 28, 29, 30, 31, 32, 33, 34, 35, 36, 37, 38, 6, 39, 40, 41, 42, 43, 44, 45, 46, 47, 48, 49, 50, 51, 52, 53, 54, 55, 56, 57, 58, 59, 70, 71, 72, 73, 74, 75, 76, 77] (by decide +kernel) (by decide +kernel)
set_option maxRecDepth 20000 in
theorem gX8_tension_X6_measure : GoodIn wsX8_tension (wsV RX8 238 RX6 yX6_measure wsX6_measure) := goodIn_app (goodIn_of _ (by decide +kernel)) ggX8_tension_X6_measure
set_option maxRecDepth 20000 in
theorem ggX8_tension_X6_tensionOf : GoodIn wsX8_tension wsX6_tensionOf := goodIn_r _ [55, 9, 10, 70, 71] (by decide +kernel) (by decide +kernel)
set_option maxRecDepth 20000 in
theorem gX8_tension_X6_tensionOf : GoodIn wsX8_tension (wsV RX8 253 RX6 yX6_tensionOf wsX6_tensionOf) := goodIn_app (goodIn_of _ (by decide +kernel)) ggX8_tension_X6_tensionOf
theorem dX8_tension_0 : decode cX8_tension 0 = .ok (.aload_n 0, 1) := by decide +kernel
theorem dX8_tension_1 : decode cX8_tension 1 = .ok (.getfield 57, 3) := by decide +kernel
theorem dX8_tension_4 : decode cX8_tension 4 = .ok (.aload_n 0, 1) := by decide +kernel
theorem dX8_tension_5 : decode cX8_tension 5 = .ok (.getfield 10, 3) := by decide +kernel
theorem dX8_tension_8 : decode cX8_tension 8 = .ok (.invokevirtual 238, 3) := by decide +kernel
theorem dX8_tension_11 : decode cX8_tension 11 = .ok (.aload_n 0, 1) := by decide +kernel
theorem dX8_tension_12 : decode cX8_tension 12 = .ok (.getfield 57, 3) := by decide +kernel
theorem dX8_tension_15 : decode cX8_tension 15 = .ok (.iload_n 1, 1) := by decide +kernel
theorem dX8_tension_16 : decode cX8_tension 16 = .ok (.invokevirtual 253, 3) := by decide +kernel
theorem dX8_tension_19 : decode cX8_tension 19 = .ok (.freturn, 1) := by decide +kernel
set_option maxRecDepth 20000 in
theorem ggX8_broken_X3_read : GoodIn wsX8_broken wsX3_read := goodIn_r _ [7, 8, 9, 10, 11, 12, 13, 14, 15, 16, 17, 18, 19, 20, 21, 22, 23, 24, 25, 26, 27, 28, 29, 30, 31, 32, 33, 34, 35, 36, 37, 38, 6, 39, 40, 41, 42, 43, 44, 45, 46, 47, 48, 49, 50, 51, 52, 53, 54, 55, 56, 57, 58, 59, 60, 61, 62, 63, 64, 65, 66, 67, 68, 97, 98, 99, 100, 101, 102, 103, 104, 105, 106, 94, 95, 96, 107, 108, 109] (by decide +kernel) (by decide +kernel)
set_option maxRecDepth 20000 in
theorem gX8_broken_X3_read : GoodIn wsX8_broken (wsV RX8 144 RX3 yX3_read wsX3_read) := goodIn_app (goodIn_of _ (by decide +kernel)) ggX8_broken_X3_read
set_option maxRecDepth 20000 in
theorem ggX8_broken_X3_breakNumber : GoodIn wsX8_broken wsX3_breakNumber := goodIn_r _ [72, 8, 73, 74, 75, 6, 76, 43, 9, 77, 78, 79, 80, 44, 45, 46, 17, 47, 48, 49, 50, 51, 52, 19, 81, 82, 83, 84, 40, 97, 98, 99, 100, 101, 102, 103, 104, 105, 106, 107, 108] (by decide +kernel) (by decide +kernel)
set_option maxRecDepth 20000 in
theorem gX8_broken_X3_breakNumber : GoodIn wsX8_broken (wsV RX8 257 RX3 yX3_breakNumber wsX3_breakNumber) := goodIn_app (goodIn_of _ (by decide +kernel)) ggX8_broken_X3_breakNumber
theorem dX8_broken_0 : decode cX8_broken 0 = .ok (.iload_n 1, 1) := by decide +kernel
theorem dX8_broken_1 : decode cX8_broken 1 = .ok (.ifCond .ge 6, 3) := by decide +kernel
theorem dX8_broken_4 : decode cX8_broken 4 = .ok (.bipush (-2), 2) := by decide +kernel
theorem dX8_broken_6 : decode cX8_broken 6 = .ok (.ireturn, 1) := by decide +kernel
theorem dX8_broken_7 : decode cX8_broken 7 = .ok (.aload_n 0, 1) := by decide +kernel
theorem dX8_broken_8 : decode cX8_broken 8 = .ok (.getfield 43, 3) := by decide +kernel
theorem dX8_broken_11 : decode cX8_broken 11 = .ok (.aload_n 0, 1) := by decide +kernel
theorem dX8_broken_12 : decode cX8_broken 12 = .ok (.getfield 10, 3) := by decide +kernel
theorem dX8_broken_15 : decode cX8_broken 15 = .ok (.aload_n 0, 1) := by decide +kernel
theorem dX8_broken_16 : decode cX8_broken 16 = .ok (.getfield 10, 3) := by decide +kernel
theorem dX8_broken_19 : decode cX8_broken 19 = .ok (.getfield 120, 3) := by decide +kernel
theorem dX8_broken_22 : decode cX8_broken 22 = .ok (.invokevirtual 144, 3) := by decide +kernel
theorem dX8_broken_25 : decode cX8_broken 25 = .ok (.aload_n 0, 1) := by decide +kernel
theorem dX8_broken_26 : decode cX8_broken 26 = .ok (.getfield 43, 3) := by decide +kernel
theorem dX8_broken_29 : decode cX8_broken 29 = .ok (.iload_n 1, 1) := by decide +kernel
theorem dX8_broken_30 : decode cX8_broken 30 = .ok (.invokevirtual 257, 3) := by decide +kernel
theorem dX8_broken_33 : decode cX8_broken 33 = .ok (.ireturn, 1) := by decide +kernel
set_option maxRecDepth 20000 in
theorem ggX8_would_X8_pinFault : GoodIn wsX8_would wsX8_pinFault := goodIn_r _ [7, 8, 9, 10, 11, 12, 13, 14, 15, 16, 6, 17, 18, 19, 20, 21, 22, 23, 24, 25, 26, 27, 28, 29, 30, 31, 32, 33, 34, 35, 36, 37, 38, 39, 40, 41, 204, 205, 206, 207, 208, 209, 210, 211, 212, 213, 214, 215, 216, 217, 218] (by decide +kernel) (by decide +kernel)
set_option maxRecDepth 20000 in
theorem gX8_would_X8_pinFault : GoodIn wsX8_would (wsV RX8 116 RX8 yX8_pinFault wsX8_pinFault) := goodIn_app (goodIn_of _ (by decide +kernel)) ggX8_would_X8_pinFault
set_option maxRecDepth 20000 in
theorem ggX8_would_X8_readWithout : GoodIn wsX8_would wsX8_readWithout := goodIn_r _ [45, 1, 8, 2, 46, 47, 48, 49, 21, 50, 33, 51, 52, 53, 54, 55, 56, 57, 58, 38, 39, 40, 41, 29, 30, 31, 32, 27, 6, 28, 59, 60, 61, 62, 63, 64, 65, 66, 67, 68, 69, 70, 71, 72, 73, 74, 75, 76, 12, 77, 14, 78, 79, 80, 81, 82, 83, 84, 85, 10, 11, 13, 86, 87, 88, 89, 90, 91, 92, 93, 94, 95, 96, 97, 98, 99, 100, 101, 102, 103, 104, 105, 106, 107, 108, 109, 110, 111, 112, 113, 114, 115, 116, 117, 118, 119, 120, 121, 122, 123, 124, 125, 126, 127, 128, 129, 130, 131, 132, 133, 134, 135, 136, 137, 138, 139, 140, 141, 142, 143, 144, 145, 146, 147, 148, 149, 150, 151, 152, 153, 154, 155, 156, 204, 205, 206, 207, 208, 209, 210, 211, 212, 213, 214, 215, 218, 219, 220, 221, 222, 223, 224, 225, 226, 227, 228, 216, 217, 229, 230, 231, 232, 233, 234, 235] (by decide +kernel) (by decide +kernel)
set_option maxRecDepth 20000 in
theorem gX8_would_X8_readWithout : GoodIn wsX8_would (wsV RX8 260 RX8 yX8_readWithout wsX8_readWithout) := goodIn_app (goodIn_of _ (by decide +kernel)) ggX8_would_X8_readWithout
set_option maxRecDepth 20000 in
theorem ggX8_would_X8_slot : GoodIn wsX8_would wsX8_slot := goodIn_r _ [28] (by decide +kernel) (by decide +kernel)
set_option maxRecDepth 20000 in
theorem gX8_would_X8_slot : GoodIn wsX8_would (va_wsS RX8 127 yX8_slot wsX8_slot) := goodIn_app (goodIn_of _ (by decide +kernel)) ggX8_would_X8_slot
set_option maxRecDepth 20000 in
theorem ggX8_would_X7_cardsAheadOf : GoodIn wsX8_would wsX7_cardsAheadOf := goodIn_r _ [161, 33, 29, 30, 31, 21, 32, 218] (by decide +kernel) (by decide +kernel)
set_option maxRecDepth 20000 in
theorem gX8_would_X7_cardsAheadOf : GoodIn wsX8_would (wsV RX8 263 RX7 yX7_cardsAheadOf wsX7_cardsAheadOf) := goodIn_app (goodIn_of _ (by decide +kernel)) ggX8_would_X7_cardsAheadOf
set_option maxRecDepth 20000 in
theorem ggX8_would_X3_tally : GoodIn wsX8_would wsX3_tally := goodIn_r _ [165, 68, 166, 134, 135, 66, 136, 69, 94, 95, 96, 12, 97, 98, 99, 100, 101, 102, 14, 167, 168, 169, 170, 91, 145, 146, 147, 148, 171, 172, 173, 174, 175, 138, 139, 140, 176, 177, 178, 179, 93, 180, 181, 182, 183, 70, 184, 185, 186, 187, 92, 188, 189, 190, 191, 71, 219, 220, 221, 222, 223, 224, 225, 226, 227, 228, 216, 217] (by decide +kernel) (by decide +kernel)
set_option maxRecDepth 20000 in
theorem gX8_would_X3_tally : GoodIn wsX8_would (wsV RX8 229 RX3 yX3_tally wsX3_tally) := goodIn_app (goodIn_of _ (by decide +kernel)) ggX8_would_X3_tally
set_option maxRecDepth 20000 in
theorem ggX8_would_X8_breaksMadeBy : GoodIn wsX8_would wsX8_breaksMadeBy := goodIn_r _ [195, 8, 46, 118, 95, 96, 12, 97, 98, 99, 100, 101, 102, 14, 196, 197, 198, 122, 199, 124, 125, 127, 200, 201, 202, 203, 204, 205, 206, 207, 208, 209, 210, 211, 212, 213, 214, 215, 216, 217, 229, 230, 231, 232, 233, 234, 235] (by decide +kernel) (by decide +kernel)
set_option maxRecDepth 20000 in
theorem gX8_would_X8_breaksMadeBy : GoodIn wsX8_would (wsV RX8 266 RX8 yX8_breaksMadeBy wsX8_breaksMadeBy) := goodIn_app (goodIn_of _ (by decide +kernel)) ggX8_would_X8_breaksMadeBy
theorem dX8_would_0 : decode cX8_would 0 = .ok (.aload_n 0, 1) := by decide +kernel
theorem dX8_would_1 : decode cX8_would 1 = .ok (.iload_n 1, 1) := by decide +kernel
theorem dX8_would_2 : decode cX8_would 2 = .ok (.iload_n 2, 1) := by decide +kernel
theorem dX8_would_3 : decode cX8_would 3 = .ok (.iload_n 3, 1) := by decide +kernel
theorem dX8_would_4 : decode cX8_would 4 = .ok (.invokevirtual 116, 3) := by decide +kernel
theorem dX8_would_7 : decode cX8_would 7 = .ok (.istore 4, 2) := by decide +kernel
theorem dX8_would_9 : decode cX8_would 9 = .ok (.iload 4, 2) := by decide +kernel
theorem dX8_would_11 : decode cX8_would 11 = .ok (.ifCond .eq 6, 3) := by decide +kernel
theorem dX8_would_14 : decode cX8_would 14 = .ok (.iload 4, 2) := by decide +kernel
theorem dX8_would_16 : decode cX8_would 16 = .ok (.ireturn, 1) := by decide +kernel
theorem dX8_would_17 : decode cX8_would 17 = .ok (.aload_n 0, 1) := by decide +kernel
theorem dX8_would_18 : decode cX8_would 18 = .ok (.iload_n 1, 1) := by decide +kernel
theorem dX8_would_19 : decode cX8_would 19 = .ok (.invokevirtual 260, 3) := by decide +kernel
theorem dX8_would_22 : decode cX8_would 22 = .ok (.aload_n 0, 1) := by decide +kernel
theorem dX8_would_23 : decode cX8_would 23 = .ok (.getfield 36, 3) := by decide +kernel
theorem dX8_would_26 : decode cX8_would 26 = .ok (.iload_n 2, 1) := by decide +kernel
theorem dX8_would_27 : decode cX8_would 27 = .ok (.iload_n 3, 1) := by decide +kernel
theorem dX8_would_28 : decode cX8_would 28 = .ok (.invokestatic 127, 3) := by decide +kernel
theorem dX8_would_31 : decode cX8_would 31 = .ok (.invokevirtual 263, 3) := by decide +kernel
theorem dX8_would_34 : decode cX8_would 34 = .ok (.istore 5, 2) := by decide +kernel
theorem dX8_would_36 : decode cX8_would 36 = .ok (.aload_n 0, 1) := by decide +kernel
theorem dX8_would_37 : decode cX8_would 37 = .ok (.getfield 43, 3) := by decide +kernel
theorem dX8_would_40 : decode cX8_would 40 = .ok (.bipush 12, 2) := by decide +kernel
theorem dX8_would_42 : decode cX8_would 42 = .ok (.iconst (-1), 1) := by decide +kernel
theorem dX8_would_43 : decode cX8_would 43 = .ok (.iconst (-1), 1) := by decide +kernel
theorem dX8_would_44 : decode cX8_would 44 = .ok (.invokevirtual 229, 3) := by decide +kernel
theorem dX8_would_47 : decode cX8_would 47 = .ok (.aload_n 0, 1) := by decide +kernel
theorem dX8_would_48 : decode cX8_would 48 = .ok (.iload_n 1, 1) := by decide +kernel
theorem dX8_would_49 : decode cX8_would 49 = .ok (.iload 5, 2) := by decide +kernel
theorem dX8_would_51 : decode cX8_would 51 = .ok (.invokevirtual 266, 3) := by decide +kernel
theorem dX8_would_54 : decode cX8_would 54 = .ok (.iadd, 1) := by decide +kernel
theorem dX8_would_55 : decode cX8_would 55 = .ok (.ireturn, 1) := by decide +kernel
set_option maxRecDepth 20000 in
theorem ggX8_best_X1_has : GoodIn wsX8_best wsX1_has := goodIn_r _ [7, 8, 177, 178] (by decide +kernel) (by decide +kernel)
set_option maxRecDepth 20000 in
theorem gX8_best_X1_has : GoodIn wsX8_best (wsV RX8 105 RX1 yX1_has wsX1_has) := goodIn_app (goodIn_of _ (by decide +kernel)) ggX8_best_X1_has
set_option maxRecDepth 20000 in
theorem ggX8_best_X8_readWithout : GoodIn wsX8_best wsX8_readWithout := goodIn_r _ [13, 2, 1, 14, 15, 16, 17, 18, 19, 20, 21, 22, 23, 24, 25, 26, 27, 28, 29, 30, 31, 32, 33, 34, 35, 36, 37, 38, 12, 39, 40, 41, 42, 43, 44, 45, 46, 47, 48, 49, 50, 51, 52, 53, 54, 55, 56, 57, 6, 58, 8, 59, 60, 61, 62, 63, 64, 65, 66, 4, 5, 7, 67, 68, 69, 70, 71, 72, 73, 74, 75, 76, 77, 78, 79, 80, 81, 82, 83, 84, 85, 86, 87, 88, 89, 90, 91, 92, 93, 94, 95, 96, 97, 98, 99, 100, 101, 102, 103, 104, 105, 106, 107, 108, 109, 110, 111, 112, 113, 114, 115, 116, 117, 118, 119, 120, 121, 122, 123, 124, 125, 126, 127, 128, 129, 130, 131, 132, 133, 134, 135, 136, 137, 165, 166, 167, 168, 169, 170, 171, 172, 173, 174, 175, 176, 179, 180, 181, 182, 183, 184, 185, 186, 187, 188, 189, 177, 178, 190, 191, 192, 193, 194, 195, 196] (by decide +kernel) (by decide +kernel)
set_option maxRecDepth 20000 in
theorem gX8_best_X8_readWithout : GoodIn wsX8_best (wsV RX8 260 RX8 yX8_readWithout wsX8_readWithout) := goodIn_app (goodIn_of _ (by decide +kernel)) ggX8_best_X8_readWithout
set_option maxRecDepth 20000 in
theorem ggX8_best_X7_sizeOf : GoodIn wsX8_best wsX7_sizeOf := goodIn_r _ [141, 142, 143, 144, 19, 145, 146, 12, 147, 38, 39, 34, 35, 36, 37, 21, 179] (by decide +kernel) (by decide +kernel)
set_option maxRecDepth 20000 in
theorem gX8_best_X7_sizeOf : GoodIn wsX8_best (wsV RX8 164 RX7 yX7_sizeOf wsX7_sizeOf) := goodIn_app (goodIn_of _ (by decide +kernel)) ggX8_best_X7_sizeOf
set_option maxRecDepth 20000 in
theorem ggX8_best_X8_slot : GoodIn wsX8_best wsX8_slot := goodIn_r _ [39] (by decide +kernel) (by decide +kernel)
set_option maxRecDepth 20000 in
theorem gX8_best_X8_slot : GoodIn wsX8_best (va_wsS RX8 127 yX8_slot wsX8_slot) := goodIn_app (goodIn_of _ (by decide +kernel)) ggX8_best_X8_slot
set_option maxRecDepth 20000 in
theorem ggX8_best_X7_cardsAheadOf : GoodIn wsX8_best wsX7_cardsAheadOf := goodIn_r _ [152, 21, 34, 35, 36, 19, 37, 179] (by decide +kernel) (by decide +kernel)
set_option maxRecDepth 20000 in
theorem gX8_best_X7_cardsAheadOf : GoodIn wsX8_best (wsV RX8 263 RX7 yX7_cardsAheadOf wsX7_cardsAheadOf) := goodIn_app (goodIn_of _ (by decide +kernel)) ggX8_best_X7_cardsAheadOf
set_option maxRecDepth 20000 in
theorem ggX8_best_X8_breaksMadeBy : GoodIn wsX8_best wsX8_breaksMadeBy := goodIn_r _ [156, 1, 15, 99, 76, 77, 6, 78, 79, 80, 81, 82, 83, 8, 157, 158, 159, 103, 160, 105, 106, 108, 161, 162, 163, 164, 165, 166, 167, 168, 169, 170, 171, 172, 173, 174, 175, 176, 177, 178, 190, 191, 192, 193, 194, 195, 196] (by decide +kernel) (by decide +kernel)
set_option maxRecDepth 20000 in
theorem gX8_best_X8_breaksMadeBy : GoodIn wsX8_best (wsV RX8 266 RX8 yX8_breaksMadeBy wsX8_breaksMadeBy) := goodIn_app (goodIn_of _ (by decide +kernel)) ggX8_best_X8_breaksMadeBy
theorem dX8_best_0 : decode cX8_best 0 = .ok (.aload_n 0, 1) := by decide +kernel
theorem dX8_best_1 : decode cX8_best 1 = .ok (.getfield 10, 3) := by decide +kernel
theorem dX8_best_4 : decode cX8_best 4 = .ok (.getfield 73, 3) := by decide +kernel
theorem dX8_best_7 : decode cX8_best 7 = .ok (.iload_n 1, 1) := by decide +kernel
theorem dX8_best_8 : decode cX8_best 8 = .ok (.invokevirtual 105, 3) := by decide +kernel
theorem dX8_best_11 : decode cX8_best 11 = .ok (.ifCond .ne 5, 3) := by decide +kernel
theorem dX8_best_14 : decode cX8_best 14 = .ok (.iconst (-1), 1) := by decide +kernel
theorem dX8_best_15 : decode cX8_best 15 = .ok (.ireturn, 1) := by decide +kernel
theorem dX8_best_16 : decode cX8_best 16 = .ok (.aload_n 0, 1) := by decide +kernel
theorem dX8_best_17 : decode cX8_best 17 = .ok (.iload_n 1, 1) := by decide +kernel
theorem dX8_best_18 : decode cX8_best 18 = .ok (.invokevirtual 260, 3) := by decide +kernel
theorem dX8_best_21 : decode cX8_best 21 = .ok (.bipush (-5), 2) := by decide +kernel
theorem dX8_best_23 : decode cX8_best 23 = .ok (.istore_n 2, 1) := by decide +kernel
theorem dX8_best_24 : decode cX8_best 24 = .ok (.iconst 0, 1) := by decide +kernel
theorem dX8_best_25 : decode cX8_best 25 = .ok (.istore_n 3, 1) := by decide +kernel
theorem dX8_best_26 : decode cX8_best 26 = .ok (.iconst 0, 1) := by decide +kernel
theorem dX8_best_27 : decode cX8_best 27 = .ok (.istore 4, 2) := by decide +kernel
theorem dX8_best_29 : decode cX8_best 29 = .ok (.iload 4, 2) := by decide +kernel
theorem dX8_best_31 : decode cX8_best 31 = .ok (.bipush 16, 2) := by decide +kernel
theorem dX8_best_33 : decode cX8_best 33 = .ok (.if_icmp .ge 101, 3) := by decide +kernel
theorem dX8_best_36 : decode cX8_best 36 = .ok (.aload_n 0, 1) := by decide +kernel
theorem dX8_best_37 : decode cX8_best 37 = .ok (.getfield 36, 3) := by decide +kernel
theorem dX8_best_40 : decode cX8_best 40 = .ok (.iload 4, 2) := by decide +kernel
theorem dX8_best_42 : decode cX8_best 42 = .ok (.invokevirtual 164, 3) := by decide +kernel
theorem dX8_best_45 : decode cX8_best 45 = .ok (.istore 5, 2) := by decide +kernel
theorem dX8_best_47 : decode cX8_best 47 = .ok (.aload_n 0, 1) := by decide +kernel
theorem dX8_best_48 : decode cX8_best 48 = .ok (.getfield 36, 3) := by decide +kernel
theorem dX8_best_51 : decode cX8_best 51 = .ok (.iload 4, 2) := by decide +kernel
theorem dX8_best_53 : decode cX8_best 53 = .ok (.iconst 0, 1) := by decide +kernel
theorem dX8_best_54 : decode cX8_best 54 = .ok (.invokestatic 127, 3) := by decide +kernel
theorem dX8_best_57 : decode cX8_best 57 = .ok (.invokevirtual 263, 3) := by decide +kernel
theorem dX8_best_60 : decode cX8_best 60 = .ok (.istore 6, 2) := by decide +kernel
theorem dX8_best_62 : decode cX8_best 62 = .ok (.iconst 0, 1) := by decide +kernel
theorem dX8_best_63 : decode cX8_best 63 = .ok (.istore 7, 2) := by decide +kernel
theorem dX8_best_65 : decode cX8_best 65 = .ok (.iload 7, 2) := by decide +kernel
theorem dX8_best_67 : decode cX8_best 67 = .ok (.iload 5, 2) := by decide +kernel
theorem dX8_best_69 : decode cX8_best 69 = .ok (.if_icmp .gt 59, 3) := by decide +kernel
theorem dX8_best_72 : decode cX8_best 72 = .ok (.iload 7, 2) := by decide +kernel
theorem dX8_best_74 : decode cX8_best 74 = .ok (.bipush 6, 2) := by decide +kernel
theorem dX8_best_76 : decode cX8_best 76 = .ok (.if_icmp .ge 52, 3) := by decide +kernel
theorem dX8_best_79 : decode cX8_best 79 = .ok (.iload 5, 2) := by decide +kernel
theorem dX8_best_81 : decode cX8_best 81 = .ok (.bipush 6, 2) := by decide +kernel
theorem dX8_best_83 : decode cX8_best 83 = .ok (.if_icmp .ge 45, 3) := by decide +kernel
theorem dX8_best_86 : decode cX8_best 86 = .ok (.aload_n 0, 1) := by decide +kernel
theorem dX8_best_87 : decode cX8_best 87 = .ok (.iload_n 1, 1) := by decide +kernel
theorem dX8_best_88 : decode cX8_best 88 = .ok (.iload 6, 2) := by decide +kernel
theorem dX8_best_90 : decode cX8_best 90 = .ok (.iload 7, 2) := by decide +kernel
theorem dX8_best_92 : decode cX8_best 92 = .ok (.iadd, 1) := by decide +kernel
theorem dX8_best_93 : decode cX8_best 93 = .ok (.invokevirtual 266, 3) := by decide +kernel
theorem dX8_best_96 : decode cX8_best 96 = .ok (.istore 8, 2) := by decide +kernel
theorem dX8_best_98 : decode cX8_best 98 = .ok (.iload_n 2, 1) := by decide +kernel
theorem dX8_best_99 : decode cX8_best 99 = .ok (.bipush (-5), 2) := by decide +kernel
theorem dX8_best_101 : decode cX8_best 101 = .ok (.if_icmp .eq 9, 3) := by decide +kernel
theorem dX8_best_104 : decode cX8_best 104 = .ok (.iload 8, 2) := by decide +kernel
theorem dX8_best_106 : decode cX8_best 106 = .ok (.iload_n 3, 1) := by decide +kernel
theorem dX8_best_107 : decode cX8_best 107 = .ok (.if_icmp .ge 15, 3) := by decide +kernel
theorem dX8_best_110 : decode cX8_best 110 = .ok (.bipush 10, 2) := by decide +kernel
theorem dX8_best_112 : decode cX8_best 112 = .ok (.iload 4, 2) := by decide +kernel
theorem dX8_best_114 : decode cX8_best 114 = .ok (.imul, 1) := by decide +kernel
theorem dX8_best_115 : decode cX8_best 115 = .ok (.iload 7, 2) := by decide +kernel
theorem dX8_best_117 : decode cX8_best 117 = .ok (.iadd, 1) := by decide +kernel
theorem dX8_best_118 : decode cX8_best 118 = .ok (.istore_n 2, 1) := by decide +kernel
theorem dX8_best_119 : decode cX8_best 119 = .ok (.iload 8, 2) := by decide +kernel
theorem dX8_best_121 : decode cX8_best 121 = .ok (.istore_n 3, 1) := by decide +kernel
theorem dX8_best_122 : decode cX8_best 122 = .ok (.iinc 7 1, 3) := by decide +kernel
theorem dX8_best_125 : decode cX8_best 125 = .ok (.goto (-60), 3) := by decide +kernel
theorem dX8_best_128 : decode cX8_best 128 = .ok (.iinc 4 1, 3) := by decide +kernel
theorem dX8_best_131 : decode cX8_best 131 = .ok (.goto (-102), 3) := by decide +kernel
theorem dX8_best_134 : decode cX8_best 134 = .ok (.iload_n 2, 1) := by decide +kernel
theorem dX8_best_135 : decode cX8_best 135 = .ok (.ireturn, 1) := by decide +kernel
set_option maxRecDepth 20000 in
theorem ggX8_count_X4_setting : GoodIn wsX8_count wsX4_setting := goodIn_r _ [10, 11, 211, 212, 213] (by decide +kernel) (by decide +kernel)
set_option maxRecDepth 20000 in
theorem gX8_count_X4_setting : GoodIn wsX8_count (wsV RX8 183 RX4 yX4_setting wsX4_setting) := goodIn_app (goodIn_of _ (by decide +kernel)) ggX8_count_X4_setting
set_option maxRecDepth 20000 in
theorem ggX8_count_X3_read : GoodIn wsX8_count wsX3_read := goodIn_r _ [16, 17, 18, 19, 20, 21, 22, 23, 24, 25, 26, 27, 28, 29, 7, 8, 9, 10, 11, 30, 31, 32, 33, 34, 35, 36, 37, 38, 39, 40, 41, 42, 15, 43, 44, 45, 46, 47, 48, 49, 50, 51, 52, 53, 54, 55, 56, 57, 58, 59, 60, 61, 62, 63, 64, 65, 66, 67, 68, 69, 70, 71, 72, 214, 215, 216, 217, 218, 219, 220, 221, 222, 223, 211, 212, 213, 224, 225, 226] (by decide +kernel) (by decide +kernel)
set_option maxRecDepth 20000 in
theorem gX8_count_X3_read : GoodIn wsX8_count (wsV RX8 144 RX3 yX3_read wsX3_read) := goodIn_app (goodIn_of _ (by decide +kernel)) ggX8_count_X3_read
set_option maxRecDepth 20000 in
theorem ggX8_count_X1_size : GoodIn wsX8_count wsX1_size := goodIn_r _ [76, 28, 224, 225] (by decide +kernel) (by decide +kernel)
set_option maxRecDepth 20000 in
theorem gX8_count_X1_size : GoodIn wsX8_count (wsV RX8 90 RX1 yX1_size wsX1_size) := goodIn_app (goodIn_of _ (by decide +kernel)) ggX8_count_X1_size
set_option maxRecDepth 20000 in
theorem ggX8_count_X7_cards : GoodIn wsX8_count wsX7_cards := goodIn_r _ [80, 35, 81, 82, 83, 33, 84, 85, 31, 32, 34, 226] (by decide +kernel) (by decide +kernel)
set_option maxRecDepth 20000 in
theorem gX8_count_X7_cards : GoodIn wsX8_count (wsV RX8 206 RX7 yX7_cards wsX7_cards) := goodIn_app (goodIn_of _ (by decide +kernel)) ggX8_count_X7_cards
set_option maxRecDepth 20000 in
theorem ggX8_count_X7_scenesWithCards : GoodIn wsX8_count wsX7_scenesWithCards := goodIn_r _ [89, 90, 91, 92, 33, 93, 94, 95, 96, 97, 98, 58, 99, 100, 101, 85, 31, 32, 34, 35, 226] (by decide +kernel) (by decide +kernel)
set_option maxRecDepth 20000 in
theorem gX8_count_X7_scenesWithCards : GoodIn wsX8_count (wsV RX8 170 RX7 yX7_scenesWithCards wsX7_scenesWithCards) := goodIn_app (goodIn_of _ (by decide +kernel)) ggX8_count_X7_scenesWithCards
set_option maxRecDepth 20000 in
theorem ggX8_count_X3_tally : GoodIn wsX8_count wsX3_tally := goodIn_r _ [105, 17, 106, 107, 108, 15, 109, 18, 48, 49, 50, 26, 51, 52, 53, 54, 55, 56, 28, 110, 111, 112, 113, 45, 114, 115, 116, 117, 118, 119, 120, 121, 122, 123, 124, 125, 126, 127, 128, 129, 47, 130, 131, 132, 133, 19, 134, 135, 136, 137, 46, 138, 139, 140, 141, 20, 214, 215, 216, 217, 218, 219, 220, 221, 222, 223, 224, 225] (by decide +kernel) (by decide +kernel)
set_option maxRecDepth 20000 in
theorem gX8_count_X3_tally : GoodIn wsX8_count (wsV RX8 229 RX3 yX3_tally wsX3_tally) := goodIn_app (goodIn_of _ (by decide +kernel)) ggX8_count_X3_tally
set_option maxRecDepth 20000 in
theorem ggX8_count_X7_holes : GoodIn wsX8_count wsX7_holes := goodIn_r _ [145, 146, 147, 148, 33, 149, 90, 91, 92, 93, 94, 95, 96, 97, 98, 58, 99, 100, 101, 85, 31, 32, 34, 35, 150, 151, 152, 153, 226] (by decide +kernel) (by decide +kernel)
set_option maxRecDepth 20000 in
theorem gX8_count_X7_holes : GoodIn wsX8_count (wsV RX8 269 RX7 yX7_holes wsX7_holes) := goodIn_app (goodIn_of _ (by decide +kernel)) ggX8_count_X7_holes
set_option maxRecDepth 20000 in
theorem ggX8_count_X6_measure : GoodIn wsX8_count wsX6_measure := goodIn_r _ [158, 159, 160, 161, 162, 163, 7, 8, 9, 10, 11, 164, 91, 92, 33, 93, 94, 95, 96, 97, 98, 58, 99, 100, 101, 85, 31, 32, 34, 35, 165, 166, 157, 167, 168, 169, 49, 50, 26, 51, 52, 53, 54, 55, 56, 28, 170, 171, 172, 173, 174, 175, 176, 177, 227, 228, 211, 212, 213, 226, 224, 225] (by decide +kernel) (by decide +kernel)
set_option maxRecDepth 20000 in
theorem gX8_count_X6_measure : GoodIn wsX8_count (wsV RX8 238 RX6 yX6_measure wsX6_measure) := goodIn_app (goodIn_of _ (by decide +kernel)) ggX8_count_X6_measure
set_option maxRecDepth 20000 in
theorem ggX8_count_X6_longestClimb : GoodIn wsX8_count wsX6_longestClimb := goodIn_r _ [181, 182, 183, 184, 185, 174, 175, 176, 157, 177, 162, 227, 228] (by decide +kernel) (by decide +kernel)
set_option maxRecDepth 20000 in
theorem gX8_count_X6_longestClimb : GoodIn wsX8_count (wsV RX8 272 RX6 yX6_longestClimb wsX6_longestClimb) := goodIn_app (goodIn_of _ (by decide +kernel)) ggX8_count_X6_longestClimb
set_option maxRecDepth 20000 in
theorem ggX8_count_X8_threadsThatStand : GoodIn wsX8_count wsX8_threadsThatStand := goodIn_r _ [189, 2, 102, 103, 104, 15, 105, 17, 106, 107, 108, 109, 18, 48, 49, 50, 26, 51, 52, 53, 54, 55, 56, 28, 110, 111, 112, 113, 45, 114, 115, 116, 117, 118, 119, 120, 121, 122, 123, 124, 125, 126, 127, 128, 129, 47, 130, 131, 132, 133, 19, 134, 135, 136, 137, 46, 138, 139, 140, 141, 20, 202, 203, 204, 205, 206, 207, 208, 209, 210, 214, 215, 216, 217, 218, 219, 220, 221, 222, 223, 224, 225] (by decide +kernel) (by decide +kernel)
set_option maxRecDepth 20000 in
theorem gX8_count_X8_threadsThatStand : GoodIn wsX8_count (wsV RX8 275 RX8 yX8_threadsThatStand wsX8_threadsThatStand) := goodIn_app (goodIn_of _ (by decide +kernel)) ggX8_count_X8_threadsThatStand
set_option maxRecDepth 20000 in
theorem ggX8_count_X2_size : GoodIn wsX8_count wsX2_size := goodIn_r _ [194, 195, 229, 230, 231] (by decide +kernel) (by decide +kernel)
set_option maxRecDepth 20000 in
theorem gX8_count_X2_size : GoodIn wsX8_count (wsV RX8 202 RX2 yX2_size wsX2_size) := goodIn_app (goodIn_of _ (by decide +kernel)) ggX8_count_X2_size
set_option maxRecDepth 20000 in
theorem ggX8_count_X0_length : GoodIn wsX8_count wsX0_length := goodIn_r _ [200, 201, 232, 233, 234, 235, 236] (by decide +kernel) (by decide +kernel)
set_option maxRecDepth 20000 in
theorem gX8_count_X0_length : GoodIn wsX8_count (wsV RX8 192 RX0 yX0_length wsX0_length) := goodIn_app (goodIn_of _ (by decide +kernel)) ggX8_count_X0_length
theorem dX8_count_0 : decode cX8_count 0 = .ok (.iload_n 1, 1) := by decide +kernel
theorem dX8_count_1 : decode cX8_count 1 = .ok (.bipush 10, 2) := by decide +kernel
theorem dX8_count_3 : decode cX8_count 3 = .ok (.if_icmp .lt 21, 3) := by decide +kernel
theorem dX8_count_6 : decode cX8_count 6 = .ok (.iload_n 1, 1) := by decide +kernel
theorem dX8_count_7 : decode cX8_count 7 = .ok (.bipush 13, 2) := by decide +kernel
theorem dX8_count_9 : decode cX8_count 9 = .ok (.if_icmp .ge 15, 3) := by decide +kernel
theorem dX8_count_12 : decode cX8_count 12 = .ok (.aload_n 0, 1) := by decide +kernel
theorem dX8_count_13 : decode cX8_count 13 = .ok (.getfield 10, 3) := by decide +kernel
theorem dX8_count_16 : decode cX8_count 16 = .ok (.iload_n 1, 1) := by decide +kernel
theorem dX8_count_17 : decode cX8_count 17 = .ok (.bipush 10, 2) := by decide +kernel
theorem dX8_count_19 : decode cX8_count 19 = .ok (.isub, 1) := by decide +kernel
theorem dX8_count_20 : decode cX8_count 20 = .ok (.invokevirtual 183, 3) := by decide +kernel
theorem dX8_count_23 : decode cX8_count 23 = .ok (.ireturn, 1) := by decide +kernel
theorem dX8_count_24 : decode cX8_count 24 = .ok (.aload_n 0, 1) := by decide +kernel
theorem dX8_count_25 : decode cX8_count 25 = .ok (.getfield 43, 3) := by decide +kernel
theorem dX8_count_28 : decode cX8_count 28 = .ok (.aload_n 0, 1) := by decide +kernel
theorem dX8_count_29 : decode cX8_count 29 = .ok (.getfield 10, 3) := by decide +kernel
theorem dX8_count_32 : decode cX8_count 32 = .ok (.aload_n 0, 1) := by decide +kernel
theorem dX8_count_33 : decode cX8_count 33 = .ok (.getfield 10, 3) := by decide +kernel
theorem dX8_count_36 : decode cX8_count 36 = .ok (.getfield 120, 3) := by decide +kernel
theorem dX8_count_39 : decode cX8_count 39 = .ok (.invokevirtual 144, 3) := by decide +kernel
theorem dX8_count_42 : decode cX8_count 42 = .ok (.iload_n 1, 1) := by decide +kernel
theorem dX8_count_43 : decode cX8_count 43 = .ok (.tableswitch 204 0 14 #[73, 84, 95, 106, 118, 130, 142, 153, 164, 183, 204, 204, 204, 188, 196], 73) := by decide +kernel
theorem dX8_count_116 : decode cX8_count 116 = .ok (.aload_n 0, 1) := by decide +kernel
theorem dX8_count_117 : decode cX8_count 117 = .ok (.getfield 10, 3) := by decide +kernel
theorem dX8_count_120 : decode cX8_count 120 = .ok (.getfield 73, 3) := by decide +kernel
theorem dX8_count_123 : decode cX8_count 123 = .ok (.invokevirtual 90, 3) := by decide +kernel
theorem dX8_count_126 : decode cX8_count 126 = .ok (.ireturn, 1) := by decide +kernel
theorem dX8_count_127 : decode cX8_count 127 = .ok (.aload_n 0, 1) := by decide +kernel
theorem dX8_count_128 : decode cX8_count 128 = .ok (.getfield 10, 3) := by decide +kernel
theorem dX8_count_131 : decode cX8_count 131 = .ok (.getfield 120, 3) := by decide +kernel
theorem dX8_count_134 : decode cX8_count 134 = .ok (.invokevirtual 206, 3) := by decide +kernel
theorem dX8_count_137 : decode cX8_count 137 = .ok (.ireturn, 1) := by decide +kernel
theorem dX8_count_138 : decode cX8_count 138 = .ok (.aload_n 0, 1) := by decide +kernel
theorem dX8_count_139 : decode cX8_count 139 = .ok (.getfield 10, 3) := by decide +kernel
theorem dX8_count_142 : decode cX8_count 142 = .ok (.getfield 120, 3) := by decide +kernel
theorem dX8_count_145 : decode cX8_count 145 = .ok (.invokevirtual 170, 3) := by decide +kernel
theorem dX8_count_148 : decode cX8_count 148 = .ok (.ireturn, 1) := by decide +kernel
theorem dX8_count_149 : decode cX8_count 149 = .ok (.aload_n 0, 1) := by decide +kernel
theorem dX8_count_150 : decode cX8_count 150 = .ok (.getfield 43, 3) := by decide +kernel
theorem dX8_count_153 : decode cX8_count 153 = .ok (.bipush 12, 2) := by decide +kernel
theorem dX8_count_155 : decode cX8_count 155 = .ok (.iconst (-1), 1) := by decide +kernel
theorem dX8_count_156 : decode cX8_count 156 = .ok (.iconst (-1), 1) := by decide +kernel
theorem dX8_count_157 : decode cX8_count 157 = .ok (.invokevirtual 229, 3) := by decide +kernel
theorem dX8_count_160 : decode cX8_count 160 = .ok (.ireturn, 1) := by decide +kernel
theorem dX8_count_161 : decode cX8_count 161 = .ok (.aload_n 0, 1) := by decide +kernel
theorem dX8_count_162 : decode cX8_count 162 = .ok (.getfield 43, 3) := by decide +kernel
theorem dX8_count_165 : decode cX8_count 165 = .ok (.bipush 13, 2) := by decide +kernel
theorem dX8_count_167 : decode cX8_count 167 = .ok (.iconst (-1), 1) := by decide +kernel
theorem dX8_count_168 : decode cX8_count 168 = .ok (.iconst (-1), 1) := by decide +kernel
theorem dX8_count_169 : decode cX8_count 169 = .ok (.invokevirtual 229, 3) := by decide +kernel
theorem dX8_count_172 : decode cX8_count 172 = .ok (.ireturn, 1) := by decide +kernel
theorem dX8_count_173 : decode cX8_count 173 = .ok (.aload_n 0, 1) := by decide +kernel
theorem dX8_count_174 : decode cX8_count 174 = .ok (.getfield 43, 3) := by decide +kernel
theorem dX8_count_177 : decode cX8_count 177 = .ok (.bipush 14, 2) := by decide +kernel
theorem dX8_count_179 : decode cX8_count 179 = .ok (.iconst (-1), 1) := by decide +kernel
theorem dX8_count_180 : decode cX8_count 180 = .ok (.iconst (-1), 1) := by decide +kernel
theorem dX8_count_181 : decode cX8_count 181 = .ok (.invokevirtual 229, 3) := by decide +kernel
theorem dX8_count_184 : decode cX8_count 184 = .ok (.ireturn, 1) := by decide +kernel
theorem dX8_count_185 : decode cX8_count 185 = .ok (.aload_n 0, 1) := by decide +kernel
theorem dX8_count_186 : decode cX8_count 186 = .ok (.getfield 10, 3) := by decide +kernel
theorem dX8_count_189 : decode cX8_count 189 = .ok (.getfield 120, 3) := by decide +kernel
theorem dX8_count_192 : decode cX8_count 192 = .ok (.invokevirtual 269, 3) := by decide +kernel
theorem dX8_count_195 : decode cX8_count 195 = .ok (.ireturn, 1) := by decide +kernel
theorem dX8_count_196 : decode cX8_count 196 = .ok (.aload_n 0, 1) := by decide +kernel
theorem dX8_count_197 : decode cX8_count 197 = .ok (.getfield 43, 3) := by decide +kernel
theorem dX8_count_200 : decode cX8_count 200 = .ok (.iconst 2, 1) := by decide +kernel
theorem dX8_count_201 : decode cX8_count 201 = .ok (.iconst (-1), 1) := by decide +kernel
theorem dX8_count_202 : decode cX8_count 202 = .ok (.iconst (-1), 1) := by decide +kernel
theorem dX8_count_203 : decode cX8_count 203 = .ok (.invokevirtual 229, 3) := by decide +kernel
theorem dX8_count_206 : decode cX8_count 206 = .ok (.ireturn, 1) := by decide +kernel
theorem dX8_count_207 : decode cX8_count 207 = .ok (.aload_n 0, 1) := by decide +kernel
theorem dX8_count_208 : decode cX8_count 208 = .ok (.getfield 57, 3) := by decide +kernel
theorem dX8_count_211 : decode cX8_count 211 = .ok (.aload_n 0, 1) := by decide +kernel
theorem dX8_count_212 : decode cX8_count 212 = .ok (.getfield 10, 3) := by decide +kernel
theorem dX8_count_215 : decode cX8_count 215 = .ok (.invokevirtual 238, 3) := by decide +kernel
theorem dX8_count_218 : decode cX8_count 218 = .ok (.aload_n 0, 1) := by decide +kernel
theorem dX8_count_219 : decode cX8_count 219 = .ok (.getfield 57, 3) := by decide +kernel
theorem dX8_count_222 : decode cX8_count 222 = .ok (.invokevirtual 272, 3) := by decide +kernel
theorem dX8_count_225 : decode cX8_count 225 = .ok (.ireturn, 1) := by decide +kernel
theorem dX8_count_226 : decode cX8_count 226 = .ok (.aload_n 0, 1) := by decide +kernel
theorem dX8_count_227 : decode cX8_count 227 = .ok (.invokevirtual 275, 3) := by decide +kernel
theorem dX8_count_230 : decode cX8_count 230 = .ok (.ireturn, 1) := by decide +kernel
theorem dX8_count_231 : decode cX8_count 231 = .ok (.aload_n 0, 1) := by decide +kernel
theorem dX8_count_232 : decode cX8_count 232 = .ok (.getfield 22, 3) := by decide +kernel
theorem dX8_count_235 : decode cX8_count 235 = .ok (.invokevirtual 202, 3) := by decide +kernel
theorem dX8_count_238 : decode cX8_count 238 = .ok (.ireturn, 1) := by decide +kernel
theorem dX8_count_239 : decode cX8_count 239 = .ok (.aload_n 0, 1) := by decide +kernel
theorem dX8_count_240 : decode cX8_count 240 = .ok (.getfield 29, 3) := by decide +kernel
theorem dX8_count_243 : decode cX8_count 243 = .ok (.invokevirtual 192, 3) := by decide +kernel
theorem dX8_count_246 : decode cX8_count 246 = .ok (.ireturn, 1) := by decide +kernel
theorem dX8_count_247 : decode cX8_count 247 = .ok (.bipush (-2), 2) := by decide +kernel
theorem dX8_count_249 : decode cX8_count 249 = .ok (.ireturn, 1) := by decide +kernel
set_option maxRecDepth 20000 in
theorem ggX8_spanBits_X6_measure : GoodIn wsX8_spanBits wsX6_measure := goodIn_r _ [7, 8, 9, 10, 11, 12, 13, 14, 15, 16, 17, 18, 19, 20, 21, 22, 23, 24, 25, 26, 27, 28, 29, 30, 31, 32, 33, 34, 35, 36, 37, 38, 6, 39, 40, 41, 42, 43, 44, 45, 46, 47, 48, 49, 50, 51, 52, 53, 54, 55, 56, 57, 58, 59, 77, 78, 79, 80, 81, 82, 83, 84] (by decide +kernel) (by decide +kernel)
set_option maxRecDepth 20000 in
theorem gX8_spanBits_X6_measure : GoodIn wsX8_spanBits (wsV RX8 238 RX6 yX6_measure wsX6_measure) := goodIn_app (goodIn_of _ (by decide +kernel)) ggX8_spanBits_X6_measure
set_option maxRecDepth 20000 in
theorem ggX8_spanBits_X6_span : GoodIn wsX8_spanBits wsX6_span := goodIn_r _ [63, 56, 57, 58, 6, 59, 11, 52, 53, 54, 55, 9, 10, 77, 78] (by decide +kernel) (by decide +kernel)
set_option maxRecDepth 20000 in
theorem gX8_spanBits_X6_span : GoodIn wsX8_spanBits (wsV RX8 278 RX6 yX6_span wsX6_span) := goodIn_app (goodIn_of _ (by decide +kernel)) ggX8_spanBits_X6_span
set_option maxRecDepth 20000 in
theorem ggX8_spanBits_X8_bitsOf : GoodIn wsX8_spanBits wsX8_bitsOf := goodIn_r _ [66, 67] (by decide +kernel) (by decide +kernel)
set_option maxRecDepth 20000 in
theorem gX8_spanBits_X8_bitsOf : GoodIn wsX8_spanBits (va_wsS RX8 282 yX8_bitsOf wsX8_bitsOf) := goodIn_app (goodIn_of _ (by decide +kernel)) ggX8_spanBits_X8_bitsOf
theorem dX8_spanBits_0 : decode cX8_spanBits 0 = .ok (.aload_n 0, 1) := by decide +kernel
theorem dX8_spanBits_1 : decode cX8_spanBits 1 = .ok (.getfield 57, 3) := by decide +kernel
theorem dX8_spanBits_4 : decode cX8_spanBits 4 = .ok (.aload_n 0, 1) := by decide +kernel
theorem dX8_spanBits_5 : decode cX8_spanBits 5 = .ok (.getfield 10, 3) := by decide +kernel
theorem dX8_spanBits_8 : decode cX8_spanBits 8 = .ok (.invokevirtual 238, 3) := by decide +kernel
theorem dX8_spanBits_11 : decode cX8_spanBits 11 = .ok (.aload_n 0, 1) := by decide +kernel
theorem dX8_spanBits_12 : decode cX8_spanBits 12 = .ok (.getfield 57, 3) := by decide +kernel
theorem dX8_spanBits_15 : decode cX8_spanBits 15 = .ok (.invokevirtual 278, 3) := by decide +kernel
theorem dX8_spanBits_18 : decode cX8_spanBits 18 = .ok (.invokestatic 282, 3) := by decide +kernel
theorem dX8_spanBits_21 : decode cX8_spanBits 21 = .ok (.ireturn, 1) := by decide +kernel
theorem dX8_isThread_0 : decode cX8_isThread 0 = .ok (.iload_n 0, 1) := by decide +kernel
theorem dX8_isThread_1 : decode cX8_isThread 1 = .ok (.ifCond .lt 13, 3) := by decide +kernel
theorem dX8_isThread_4 : decode cX8_isThread 4 = .ok (.iload_n 0, 1) := by decide +kernel
theorem dX8_isThread_5 : decode cX8_isThread 5 = .ok (.bipush 6, 2) := by decide +kernel
theorem dX8_isThread_7 : decode cX8_isThread 7 = .ok (.if_icmp .ge 7, 3) := by decide +kernel
theorem dX8_isThread_10 : decode cX8_isThread 10 = .ok (.iconst 1, 1) := by decide +kernel
theorem dX8_isThread_11 : decode cX8_isThread 11 = .ok (.goto 4, 3) := by decide +kernel
theorem dX8_isThread_14 : decode cX8_isThread 14 = .ok (.iconst 0, 1) := by decide +kernel
theorem dX8_isThread_15 : decode cX8_isThread 15 = .ok (.ireturn, 1) := by decide +kernel
theorem dX8_isScene_0 : decode cX8_isScene 0 = .ok (.iload_n 0, 1) := by decide +kernel
theorem dX8_isScene_1 : decode cX8_isScene 1 = .ok (.ifCond .lt 13, 3) := by decide +kernel
theorem dX8_isScene_4 : decode cX8_isScene 4 = .ok (.iload_n 0, 1) := by decide +kernel
theorem dX8_isScene_5 : decode cX8_isScene 5 = .ok (.bipush 16, 2) := by decide +kernel
theorem dX8_isScene_7 : decode cX8_isScene 7 = .ok (.if_icmp .ge 7, 3) := by decide +kernel
theorem dX8_isScene_10 : decode cX8_isScene 10 = .ok (.iconst 1, 1) := by decide +kernel
theorem dX8_isScene_11 : decode cX8_isScene 11 = .ok (.goto 4, 3) := by decide +kernel
theorem dX8_isScene_14 : decode cX8_isScene 14 = .ok (.iconst 0, 1) := by decide +kernel
theorem dX8_isScene_15 : decode cX8_isScene 15 = .ok (.ireturn, 1) := by decide +kernel
theorem dX8_mayBe_0 : decode cX8_mayBe 0 = .ok (.iload_n 0, 1) := by decide +kernel
theorem dX8_mayBe_1 : decode cX8_mayBe 1 = .ok (.ifCond .lt 30, 3) := by decide +kernel
theorem dX8_mayBe_4 : decode cX8_mayBe 4 = .ok (.iload_n 0, 1) := by decide +kernel
theorem dX8_mayBe_5 : decode cX8_mayBe 5 = .ok (.iconst 5, 1) := by decide +kernel
theorem dX8_mayBe_6 : decode cX8_mayBe 6 = .ok (.if_icmp .ge 25, 3) := by decide +kernel
theorem dX8_mayBe_9 : decode cX8_mayBe 9 = .ok (.iload_n 1, 1) := by decide +kernel
theorem dX8_mayBe_10 : decode cX8_mayBe 10 = .ok (.getstatic 286, 3) := by decide +kernel
theorem dX8_mayBe_13 : decode cX8_mayBe 13 = .ok (.iload_n 0, 1) := by decide +kernel
theorem dX8_mayBe_14 : decode cX8_mayBe 14 = .ok (.iaload, 1) := by decide +kernel
theorem dX8_mayBe_15 : decode cX8_mayBe 15 = .ok (.if_icmp .lt 16, 3) := by decide +kernel
theorem dX8_mayBe_18 : decode cX8_mayBe 18 = .ok (.iload_n 1, 1) := by decide +kernel
theorem dX8_mayBe_19 : decode cX8_mayBe 19 = .ok (.getstatic 289, 3) := by decide +kernel
theorem dX8_mayBe_22 : decode cX8_mayBe 22 = .ok (.iload_n 0, 1) := by decide +kernel
theorem dX8_mayBe_23 : decode cX8_mayBe 23 = .ok (.iaload, 1) := by decide +kernel
theorem dX8_mayBe_24 : decode cX8_mayBe 24 = .ok (.if_icmp .gt 7, 3) := by decide +kernel
theorem dX8_mayBe_27 : decode cX8_mayBe 27 = .ok (.iconst 1, 1) := by decide +kernel
theorem dX8_mayBe_28 : decode cX8_mayBe 28 = .ok (.goto 4, 3) := by decide +kernel
theorem dX8_mayBe_31 : decode cX8_mayBe 31 = .ok (.iconst 0, 1) := by decide +kernel
theorem dX8_mayBe_32 : decode cX8_mayBe 32 = .ok (.ireturn, 1) := by decide +kernel
theorem dX8_slot_0 : decode cX8_slot 0 = .ok (.iload_n 0, 1) := by decide +kernel
theorem dX8_slot_1 : decode cX8_slot 1 = .ok (.bipush 6, 2) := by decide +kernel
theorem dX8_slot_3 : decode cX8_slot 3 = .ok (.imul, 1) := by decide +kernel
theorem dX8_slot_4 : decode cX8_slot 4 = .ok (.iload_n 1, 1) := by decide +kernel
theorem dX8_slot_5 : decode cX8_slot 5 = .ok (.iadd, 1) := by decide +kernel
theorem dX8_slot_6 : decode cX8_slot 6 = .ok (.ireturn, 1) := by decide +kernel
set_option maxRecDepth 20000 in
theorem ggX8_pinFault_X1_has : GoodIn wsX8_pinFault wsX1_has := goodIn_r _ [6, 7, 48, 49] (by decide +kernel) (by decide +kernel)
set_option maxRecDepth 20000 in
theorem gX8_pinFault_X1_has : GoodIn wsX8_pinFault (wsV RX8 105 RX1 yX1_has wsX1_has) := goodIn_app (goodIn_of _ (by decide +kernel)) ggX8_pinFault_X1_has
set_option maxRecDepth 20000 in
theorem ggX8_pinFault_X8_isScene : GoodIn wsX8_pinFault wsX8_isScene := goodIn_r _ [11] (by decide +kernel) (by decide +kernel)
set_option maxRecDepth 20000 in
theorem gX8_pinFault_X8_isScene : GoodIn wsX8_pinFault (va_wsS RX8 161 yX8_isScene wsX8_isScene) := goodIn_app (goodIn_of _ (by decide +kernel)) ggX8_pinFault_X8_isScene
set_option maxRecDepth 20000 in
theorem ggX8_pinFault_X7_sizeOf : GoodIn wsX8_pinFault wsX7_sizeOf := goodIn_r _ [16, 17, 18, 19, 15, 20, 9, 10, 11, 21, 22, 23, 24, 25, 26, 27, 50] (by decide +kernel) (by decide +kernel)
set_option maxRecDepth 20000 in
theorem gX8_pinFault_X7_sizeOf : GoodIn wsX8_pinFault (wsV RX8 164 RX7 yX7_sizeOf wsX7_sizeOf) := goodIn_app (goodIn_of _ (by decide +kernel)) ggX8_pinFault_X7_sizeOf
set_option maxRecDepth 20000 in
theorem ggX8_pinFault_X7_isIn : GoodIn wsX8_pinFault wsX7_isIn := goodIn_r _ [31, 32, 33, 34, 15, 35, 27, 23, 24, 25, 26, 50] (by decide +kernel) (by decide +kernel)
set_option maxRecDepth 20000 in
theorem gX8_pinFault_X7_isIn : GoodIn wsX8_pinFault (wsV RX8 292 RX7 yX7_isIn wsX7_isIn) := goodIn_app (goodIn_of _ (by decide +kernel)) ggX8_pinFault_X7_isIn
theorem dX8_pinFault_0 : decode cX8_pinFault 0 = .ok (.aload_n 0, 1) := by decide +kernel
theorem dX8_pinFault_1 : decode cX8_pinFault 1 = .ok (.getfield 10, 3) := by decide +kernel
theorem dX8_pinFault_4 : decode cX8_pinFault 4 = .ok (.getfield 73, 3) := by decide +kernel
theorem dX8_pinFault_7 : decode cX8_pinFault 7 = .ok (.iload_n 1, 1) := by decide +kernel
theorem dX8_pinFault_8 : decode cX8_pinFault 8 = .ok (.invokevirtual 105, 3) := by decide +kernel
theorem dX8_pinFault_11 : decode cX8_pinFault 11 = .ok (.ifCond .eq 10, 3) := by decide +kernel
theorem dX8_pinFault_14 : decode cX8_pinFault 14 = .ok (.iload_n 2, 1) := by decide +kernel
theorem dX8_pinFault_15 : decode cX8_pinFault 15 = .ok (.invokestatic 161, 3) := by decide +kernel
theorem dX8_pinFault_18 : decode cX8_pinFault 18 = .ok (.ifCond .ne 5, 3) := by decide +kernel
theorem dX8_pinFault_21 : decode cX8_pinFault 21 = .ok (.iconst (-1), 1) := by decide +kernel
theorem dX8_pinFault_22 : decode cX8_pinFault 22 = .ok (.ireturn, 1) := by decide +kernel
theorem dX8_pinFault_23 : decode cX8_pinFault 23 = .ok (.aload_n 0, 1) := by decide +kernel
theorem dX8_pinFault_24 : decode cX8_pinFault 24 = .ok (.getfield 10, 3) := by decide +kernel
theorem dX8_pinFault_27 : decode cX8_pinFault 27 = .ok (.getfield 120, 3) := by decide +kernel
theorem dX8_pinFault_30 : decode cX8_pinFault 30 = .ok (.iload_n 2, 1) := by decide +kernel
theorem dX8_pinFault_31 : decode cX8_pinFault 31 = .ok (.invokevirtual 164, 3) := by decide +kernel
theorem dX8_pinFault_34 : decode cX8_pinFault 34 = .ok (.istore 4, 2) := by decide +kernel
theorem dX8_pinFault_36 : decode cX8_pinFault 36 = .ok (.aload_n 0, 1) := by decide +kernel
theorem dX8_pinFault_37 : decode cX8_pinFault 37 = .ok (.getfield 10, 3) := by decide +kernel
theorem dX8_pinFault_40 : decode cX8_pinFault 40 = .ok (.getfield 120, 3) := by decide +kernel
theorem dX8_pinFault_43 : decode cX8_pinFault 43 = .ok (.iload_n 1, 1) := by decide +kernel
theorem dX8_pinFault_44 : decode cX8_pinFault 44 = .ok (.iload_n 2, 1) := by decide +kernel
theorem dX8_pinFault_45 : decode cX8_pinFault 45 = .ok (.invokevirtual 292, 3) := by decide +kernel
theorem dX8_pinFault_48 : decode cX8_pinFault 48 = .ok (.ifCond .eq 6, 3) := by decide +kernel
theorem dX8_pinFault_51 : decode cX8_pinFault 51 = .ok (.iinc 4 (-1), 3) := by decide +kernel
theorem dX8_pinFault_54 : decode cX8_pinFault 54 = .ok (.iload 4, 2) := by decide +kernel
theorem dX8_pinFault_56 : decode cX8_pinFault 56 = .ok (.bipush 6, 2) := by decide +kernel
theorem dX8_pinFault_58 : decode cX8_pinFault 58 = .ok (.if_icmp .lt 6, 3) := by decide +kernel
theorem dX8_pinFault_61 : decode cX8_pinFault 61 = .ok (.bipush (-3), 2) := by decide +kernel
theorem dX8_pinFault_63 : decode cX8_pinFault 63 = .ok (.ireturn, 1) := by decide +kernel
theorem dX8_pinFault_64 : decode cX8_pinFault 64 = .ok (.iload_n 3, 1) := by decide +kernel
theorem dX8_pinFault_65 : decode cX8_pinFault 65 = .ok (.ifCond .lt 9, 3) := by decide +kernel
theorem dX8_pinFault_68 : decode cX8_pinFault 68 = .ok (.iload_n 3, 1) := by decide +kernel
theorem dX8_pinFault_69 : decode cX8_pinFault 69 = .ok (.iload 4, 2) := by decide +kernel
theorem dX8_pinFault_71 : decode cX8_pinFault 71 = .ok (.if_icmp .le 8, 3) := by decide +kernel
theorem dX8_pinFault_74 : decode cX8_pinFault 74 = .ok (.bipush (-2), 2) := by decide +kernel
theorem dX8_pinFault_76 : decode cX8_pinFault 76 = .ok (.goto 4, 3) := by decide +kernel
theorem dX8_pinFault_79 : decode cX8_pinFault 79 = .ok (.iconst 0, 1) := by decide +kernel
theorem dX8_pinFault_80 : decode cX8_pinFault 80 = .ok (.ireturn, 1) := by decide +kernel
set_option maxRecDepth 20000 in
theorem ggX8_breaksNow_X3_read : GoodIn wsX8_breaksNow wsX3_read := goodIn_r _ [7, 8, 9, 10, 11, 12, 13, 14, 15, 16, 17, 18, 19, 20, 21, 22, 23, 24, 25, 26, 27, 28, 29, 30, 31, 32, 33, 34, 35, 36, 37, 38, 6, 39, 40, 41, 42, 43, 44, 45, 46, 47, 48, 49, 50, 51, 52, 53, 54, 55, 56, 57, 58, 59, 60, 61, 62, 63, 64, 65, 66, 67, 68, 121, 122, 123, 124, 125, 126, 127, 128, 129, 130, 118, 119, 120, 131, 132, 133] (by decide +kernel) (by decide +kernel)
set_option maxRecDepth 20000 in
theorem gX8_breaksNow_X3_read : GoodIn wsX8_breaksNow (wsV RX8 144 RX3 yX3_read wsX3_read) := goodIn_app (goodIn_of _ (by decide +kernel)) ggX8_breaksNow_X3_read
set_option maxRecDepth 20000 in
theorem ggX8_breaksNow_X3_tally : GoodIn wsX8_breaksNow wsX3_tally := goodIn_r _ [72, 8, 73, 74, 75, 6, 76, 9, 44, 45, 46, 17, 47, 48, 49, 50, 51, 52, 19, 77, 78, 79, 80, 41, 81, 82, 83, 84, 85, 86, 87, 88, 89, 90, 91, 92, 93, 94, 95, 96, 43, 97, 98, 99, 100, 10, 101, 102, 103, 104, 42, 105, 106, 107, 108, 11, 121, 122, 123, 124, 125, 126, 127, 128, 129, 130, 131, 132] (by decide +kernel) (by decide +kernel)
set_option maxRecDepth 20000 in
theorem gX8_breaksNow_X3_tally : GoodIn wsX8_breaksNow (wsV RX8 229 RX3 yX3_tally wsX3_tally) := goodIn_app (goodIn_of _ (by decide +kernel)) ggX8_breaksNow_X3_tally
theorem dX8_breaksNow_0 : decode cX8_breaksNow 0 = .ok (.aload_n 0, 1) := by decide +kernel
theorem dX8_breaksNow_1 : decode cX8_breaksNow 1 = .ok (.getfield 43, 3) := by decide +kernel
theorem dX8_breaksNow_4 : decode cX8_breaksNow 4 = .ok (.aload_n 0, 1) := by decide +kernel
theorem dX8_breaksNow_5 : decode cX8_breaksNow 5 = .ok (.getfield 10, 3) := by decide +kernel
theorem dX8_breaksNow_8 : decode cX8_breaksNow 8 = .ok (.aload_n 0, 1) := by decide +kernel
theorem dX8_breaksNow_9 : decode cX8_breaksNow 9 = .ok (.getfield 10, 3) := by decide +kernel
theorem dX8_breaksNow_12 : decode cX8_breaksNow 12 = .ok (.getfield 120, 3) := by decide +kernel
theorem dX8_breaksNow_15 : decode cX8_breaksNow 15 = .ok (.invokevirtual 144, 3) := by decide +kernel
theorem dX8_breaksNow_18 : decode cX8_breaksNow 18 = .ok (.aload_n 0, 1) := by decide +kernel
theorem dX8_breaksNow_19 : decode cX8_breaksNow 19 = .ok (.getfield 43, 3) := by decide +kernel
theorem dX8_breaksNow_22 : decode cX8_breaksNow 22 = .ok (.bipush 12, 2) := by decide +kernel
theorem dX8_breaksNow_24 : decode cX8_breaksNow 24 = .ok (.iload_n 1, 1) := by decide +kernel
theorem dX8_breaksNow_25 : decode cX8_breaksNow 25 = .ok (.iconst (-1), 1) := by decide +kernel
theorem dX8_breaksNow_26 : decode cX8_breaksNow 26 = .ok (.invokevirtual 229, 3) := by decide +kernel
theorem dX8_breaksNow_29 : decode cX8_breaksNow 29 = .ok (.ireturn, 1) := by decide +kernel
set_option maxRecDepth 20000 in
theorem ggX8_threadsThatStand_X3_tally : GoodIn wsX8_threadsThatStand wsX3_tally := goodIn_r _ [6, 7, 8, 9, 10, 5, 11, 12, 13, 14, 15, 16, 17, 18, 19, 20, 21, 22, 23, 24, 25, 26, 27, 28, 29, 30, 31, 32, 33, 34, 35, 36, 37, 38, 39, 40, 41, 42, 43, 44, 45, 46, 47, 48, 49, 50, 51, 52, 53, 54, 55, 56, 57, 58, 59, 60, 70, 71, 72, 73, 74, 75, 76, 77, 78, 79, 80, 81] (by decide +kernel) (by decide +kernel)
set_option maxRecDepth 20000 in
theorem gX8_threadsThatStand_X3_tally : GoodIn wsX8_threadsThatStand (wsV RX8 229 RX3 yX3_tally wsX3_tally) := goodIn_app (goodIn_of _ (by decide +kernel)) ggX8_threadsThatStand_X3_tally
theorem dX8_threadsThatStand_0 : decode cX8_threadsThatStand 0 = .ok (.iconst 0, 1) := by decide +kernel
theorem dX8_threadsThatStand_1 : decode cX8_threadsThatStand 1 = .ok (.istore_n 1, 1) := by decide +kernel
theorem dX8_threadsThatStand_2 : decode cX8_threadsThatStand 2 = .ok (.iconst 0, 1) := by decide +kernel
theorem dX8_threadsThatStand_3 : decode cX8_threadsThatStand 3 = .ok (.istore_n 2, 1) := by decide +kernel
theorem dX8_threadsThatStand_4 : decode cX8_threadsThatStand 4 = .ok (.iload_n 2, 1) := by decide +kernel
theorem dX8_threadsThatStand_5 : decode cX8_threadsThatStand 5 = .ok (.bipush 6, 2) := by decide +kernel
theorem dX8_threadsThatStand_7 : decode cX8_threadsThatStand 7 = .ok (.if_icmp .ge 26, 3) := by decide +kernel
theorem dX8_threadsThatStand_10 : decode cX8_threadsThatStand 10 = .ok (.aload_n 0, 1) := by decide +kernel
theorem dX8_threadsThatStand_11 : decode cX8_threadsThatStand 11 = .ok (.getfield 43, 3) := by decide +kernel
theorem dX8_threadsThatStand_14 : decode cX8_threadsThatStand 14 = .ok (.bipush 12, 2) := by decide +kernel
theorem dX8_threadsThatStand_16 : decode cX8_threadsThatStand 16 = .ok (.iload_n 2, 1) := by decide +kernel
theorem dX8_threadsThatStand_17 : decode cX8_threadsThatStand 17 = .ok (.iconst (-1), 1) := by decide +kernel
theorem dX8_threadsThatStand_18 : decode cX8_threadsThatStand 18 = .ok (.invokevirtual 229, 3) := by decide +kernel
theorem dX8_threadsThatStand_21 : decode cX8_threadsThatStand 21 = .ok (.ifCond .ne 6, 3) := by decide +kernel
theorem dX8_threadsThatStand_24 : decode cX8_threadsThatStand 24 = .ok (.iinc 1 1, 3) := by decide +kernel
theorem dX8_threadsThatStand_27 : decode cX8_threadsThatStand 27 = .ok (.iinc 2 1, 3) := by decide +kernel
theorem dX8_threadsThatStand_30 : decode cX8_threadsThatStand 30 = .ok (.goto (-26), 3) := by decide +kernel
theorem dX8_threadsThatStand_33 : decode cX8_threadsThatStand 33 = .ok (.iload_n 1, 1) := by decide +kernel
theorem dX8_threadsThatStand_34 : decode cX8_threadsThatStand 34 = .ok (.ireturn, 1) := by decide +kernel
set_option maxRecDepth 20000 in
theorem ggX8_readWithout_X7_copyFrom : GoodIn wsX8_readWithout wsX7_copyFrom := goodIn_r _ [9, 10, 11, 12, 13, 14, 145] (by decide +kernel) (by decide +kernel)
set_option maxRecDepth 20000 in
theorem gX8_readWithout_X7_copyFrom : GoodIn wsX8_readWithout (wsV RX8 295 RX7 yX7_copyFrom wsX7_copyFrom) := goodIn_app (goodIn_of _ (by decide +kernel)) ggX8_readWithout_X7_copyFrom
set_option maxRecDepth 20000 in
theorem ggX8_readWithout_X7_takeOff : GoodIn wsX8_readWithout wsX7_takeOff := goodIn_r _ [18, 19, 20, 21, 8, 22, 10, 23, 24, 25, 26, 27, 28, 29, 30, 31, 32, 33, 145] (by decide +kernel) (by decide +kernel)
set_option maxRecDepth 20000 in
theorem gX8_readWithout_X7_takeOff : GoodIn wsX8_readWithout (wsV RX8 130 RX7 yX7_takeOff wsX7_takeOff) := goodIn_app (goodIn_of _ (by decide +kernel)) ggX8_readWithout_X7_takeOff
set_option maxRecDepth 20000 in
theorem ggX8_readWithout_X3_read : GoodIn wsX8_readWithout wsX3_read := goodIn_r _ [38, 39, 40, 41, 42, 43, 44, 45, 46, 47, 48, 49, 50, 51, 52, 53, 54, 55, 56, 57, 24, 25, 8, 26, 10, 58, 59, 60, 61, 62, 63, 64, 37, 65, 66, 67, 68, 69, 70, 71, 72, 73, 74, 75, 76, 77, 78, 79, 28, 80, 81, 82, 83, 84, 85, 86, 87, 88, 89, 90, 91, 92, 93, 146, 147, 148, 149, 150, 151, 152, 153, 154, 155, 142, 143, 144, 156, 157, 145] (by decide +kernel) (by decide +kernel)
set_option maxRecDepth 20000 in
theorem gX8_readWithout_X3_read : GoodIn wsX8_readWithout (wsV RX8 144 RX3 yX3_read wsX3_read) := goodIn_app (goodIn_of _ (by decide +kernel)) ggX8_readWithout_X3_read
set_option maxRecDepth 20000 in
theorem ggX8_readWithout_X1_number : GoodIn wsX8_readWithout wsX1_number := goodIn_r _ [73, 74, 75, 76, 77, 48, 78, 50, 156, 157] (by decide +kernel) (by decide +kernel)
set_option maxRecDepth 20000 in
theorem gX8_readWithout_X1_number : GoodIn wsX8_readWithout (wsV RX8 108 RX1 yX1_number wsX1_number) := goodIn_app (goodIn_of _ (by decide +kernel)) ggX8_readWithout_X1_number
set_option maxRecDepth 20000 in
theorem ggX8_readWithout_X5_gather : GoodIn wsX8_readWithout wsX5_gather := goodIn_r _ [99, 100, 101, 102, 103, 104, 105, 106, 107, 37, 108, 39, 109, 110, 111, 112, 40, 70, 71, 72, 48, 73, 74, 75, 76, 77, 78, 50, 113, 114, 115, 116, 117, 118, 119, 120, 66, 121, 122, 123, 124, 125, 126, 127, 128, 129, 130, 131, 132, 67, 158, 159, 160, 161, 162, 163, 164, 146, 147, 148, 149, 150, 151, 152, 153, 154, 155, 156, 157] (by decide +kernel) (by decide +kernel)
set_option maxRecDepth 20000 in
theorem gX8_readWithout_X5_gather : GoodIn wsX8_readWithout (wsV RX8 147 RX5 yX5_gather wsX5_gather) := goodIn_app (goodIn_of _ (by decide +kernel)) ggX8_readWithout_X5_gather
theorem dX8_readWithout_0 : decode cX8_readWithout 0 = .ok (.aload_n 0, 1) := by decide +kernel
theorem dX8_readWithout_1 : decode cX8_readWithout 1 = .ok (.getfield 36, 3) := by decide +kernel
theorem dX8_readWithout_4 : decode cX8_readWithout 4 = .ok (.aload_n 0, 1) := by decide +kernel
theorem dX8_readWithout_5 : decode cX8_readWithout 5 = .ok (.getfield 10, 3) := by decide +kernel
theorem dX8_readWithout_8 : decode cX8_readWithout 8 = .ok (.getfield 120, 3) := by decide +kernel
theorem dX8_readWithout_11 : decode cX8_readWithout 11 = .ok (.invokevirtual 295, 3) := by decide +kernel
theorem dX8_readWithout_14 : decode cX8_readWithout 14 = .ok (.aload_n 0, 1) := by decide +kernel
theorem dX8_readWithout_15 : decode cX8_readWithout 15 = .ok (.getfield 36, 3) := by decide +kernel
theorem dX8_readWithout_18 : decode cX8_readWithout 18 = .ok (.iload_n 1, 1) := by decide +kernel
theorem dX8_readWithout_19 : decode cX8_readWithout 19 = .ok (.invokevirtual 130, 3) := by decide +kernel
theorem dX8_readWithout_22 : decode cX8_readWithout 22 = .ok (.aload_n 0, 1) := by decide +kernel
theorem dX8_readWithout_23 : decode cX8_readWithout 23 = .ok (.getfield 43, 3) := by decide +kernel
theorem dX8_readWithout_26 : decode cX8_readWithout 26 = .ok (.aload_n 0, 1) := by decide +kernel
theorem dX8_readWithout_27 : decode cX8_readWithout 27 = .ok (.getfield 10, 3) := by decide +kernel
theorem dX8_readWithout_30 : decode cX8_readWithout 30 = .ok (.aload_n 0, 1) := by decide +kernel
theorem dX8_readWithout_31 : decode cX8_readWithout 31 = .ok (.getfield 36, 3) := by decide +kernel
theorem dX8_readWithout_34 : decode cX8_readWithout 34 = .ok (.invokevirtual 144, 3) := by decide +kernel
theorem dX8_readWithout_37 : decode cX8_readWithout 37 = .ok (.aload_n 0, 1) := by decide +kernel
theorem dX8_readWithout_38 : decode cX8_readWithout 38 = .ok (.getfield 50, 3) := by decide +kernel
theorem dX8_readWithout_41 : decode cX8_readWithout 41 = .ok (.aload_n 0, 1) := by decide +kernel
theorem dX8_readWithout_42 : decode cX8_readWithout 42 = .ok (.getfield 43, 3) := by decide +kernel
theorem dX8_readWithout_45 : decode cX8_readWithout 45 = .ok (.aload_n 0, 1) := by decide +kernel
theorem dX8_readWithout_46 : decode cX8_readWithout 46 = .ok (.getfield 10, 3) := by decide +kernel
theorem dX8_readWithout_49 : decode cX8_readWithout 49 = .ok (.getfield 73, 3) := by decide +kernel
theorem dX8_readWithout_52 : decode cX8_readWithout 52 = .ok (.iload_n 1, 1) := by decide +kernel
theorem dX8_readWithout_53 : decode cX8_readWithout 53 = .ok (.iconst 0, 1) := by decide +kernel
theorem dX8_readWithout_54 : decode cX8_readWithout 54 = .ok (.invokevirtual 108, 3) := by decide +kernel
theorem dX8_readWithout_57 : decode cX8_readWithout 57 = .ok (.invokevirtual 147, 3) := by decide +kernel
theorem dX8_readWithout_60 : decode cX8_readWithout 60 = .ok (.return_, 1) := by decide +kernel
set_option maxRecDepth 20000 in
theorem ggX8_breaksMadeBy_X1_number : GoodIn wsX8_breaksMadeBy wsX1_number := goodIn_r _ [7, 8, 9, 10, 11, 6, 12, 13, 38, 39] (by decide +kernel) (by decide +kernel)
set_option maxRecDepth 20000 in
theorem gX8_breaksMadeBy_X1_number : GoodIn wsX8_breaksMadeBy (wsV RX8 108 RX1 yX1_number wsX1_number) := goodIn_app (goodIn_of _ (by decide +kernel)) ggX8_breaksMadeBy_X1_number
set_option maxRecDepth 20000 in
theorem ggX8_breaksMadeBy_X5_breaksMadeBy : GoodIn wsX8_breaksMadeBy wsX5_breaksMadeBy := goodIn_r _ [18, 19, 20, 21, 22, 23, 24, 17, 25, 40, 41, 42, 43, 44, 45, 46] (by decide +kernel) (by decide +kernel)
set_option maxRecDepth 20000 in
theorem gX8_breaksMadeBy_X5_breaksMadeBy : GoodIn wsX8_breaksMadeBy (wsV RX8 297 RX5 yX5_breaksMadeBy wsX5_breaksMadeBy) := goodIn_app (goodIn_of _ (by decide +kernel)) ggX8_breaksMadeBy_X5_breaksMadeBy
theorem dX8_breaksMadeBy_0 : decode cX8_breaksMadeBy 0 = .ok (.aload_n 0, 1) := by decide +kernel
theorem dX8_breaksMadeBy_1 : decode cX8_breaksMadeBy 1 = .ok (.getfield 10, 3) := by decide +kernel
theorem dX8_breaksMadeBy_4 : decode cX8_breaksMadeBy 4 = .ok (.getfield 73, 3) := by decide +kernel
theorem dX8_breaksMadeBy_7 : decode cX8_breaksMadeBy 7 = .ok (.iload_n 1, 1) := by decide +kernel
theorem dX8_breaksMadeBy_8 : decode cX8_breaksMadeBy 8 = .ok (.iconst 4, 1) := by decide +kernel
theorem dX8_breaksMadeBy_9 : decode cX8_breaksMadeBy 9 = .ok (.invokevirtual 108, 3) := by decide +kernel
theorem dX8_breaksMadeBy_12 : decode cX8_breaksMadeBy 12 = .ok (.iconst 1, 1) := by decide +kernel
theorem dX8_breaksMadeBy_13 : decode cX8_breaksMadeBy 13 = .ok (.if_icmp .ne 5, 3) := by decide +kernel
theorem dX8_breaksMadeBy_16 : decode cX8_breaksMadeBy 16 = .ok (.iconst 0, 1) := by decide +kernel
theorem dX8_breaksMadeBy_17 : decode cX8_breaksMadeBy 17 = .ok (.ireturn, 1) := by decide +kernel
theorem dX8_breaksMadeBy_18 : decode cX8_breaksMadeBy 18 = .ok (.aload_n 0, 1) := by decide +kernel
theorem dX8_breaksMadeBy_19 : decode cX8_breaksMadeBy 19 = .ok (.getfield 50, 3) := by decide +kernel
theorem dX8_breaksMadeBy_22 : decode cX8_breaksMadeBy 22 = .ok (.aload_n 0, 1) := by decide +kernel
theorem dX8_breaksMadeBy_23 : decode cX8_breaksMadeBy 23 = .ok (.getfield 10, 3) := by decide +kernel
theorem dX8_breaksMadeBy_26 : decode cX8_breaksMadeBy 26 = .ok (.getfield 73, 3) := by decide +kernel
theorem dX8_breaksMadeBy_29 : decode cX8_breaksMadeBy 29 = .ok (.iload_n 1, 1) := by decide +kernel
theorem dX8_breaksMadeBy_30 : decode cX8_breaksMadeBy 30 = .ok (.iconst 1, 1) := by decide +kernel
theorem dX8_breaksMadeBy_31 : decode cX8_breaksMadeBy 31 = .ok (.invokevirtual 108, 3) := by decide +kernel
theorem dX8_breaksMadeBy_34 : decode cX8_breaksMadeBy 34 = .ok (.iload_n 2, 1) := by decide +kernel
theorem dX8_breaksMadeBy_35 : decode cX8_breaksMadeBy 35 = .ok (.invokevirtual 297, 3) := by decide +kernel
theorem dX8_breaksMadeBy_38 : decode cX8_breaksMadeBy 38 = .ok (.ireturn, 1) := by decide +kernel
theorem dX8_bitsOf_0 : decode cX8_bitsOf 0 = .ok (.fload_n 0, 1) := by decide +kernel
theorem dX8_bitsOf_1 : decode cX8_bitsOf 1 = .ok (.fstore_n 1, 1) := by decide +kernel
theorem dX8_bitsOf_2 : decode cX8_bitsOf 2 = .ok (.bipush 127, 2) := by decide +kernel
theorem dX8_bitsOf_4 : decode cX8_bitsOf 4 = .ok (.istore_n 2, 1) := by decide +kernel
theorem dX8_bitsOf_5 : decode cX8_bitsOf 5 = .ok (.fload_n 1, 1) := by decide +kernel
theorem dX8_bitsOf_6 : decode cX8_bitsOf 6 = .ok (.fconst 2, 1) := by decide +kernel
theorem dX8_bitsOf_7 : decode cX8_bitsOf 7 = .ok (.fcmp .l, 1) := by decide +kernel
theorem dX8_bitsOf_8 : decode cX8_bitsOf 8 = .ok (.ifCond .lt 20, 3) := by decide +kernel
theorem dX8_bitsOf_11 : decode cX8_bitsOf 11 = .ok (.iload_n 2, 1) := by decide +kernel
theorem dX8_bitsOf_12 : decode cX8_bitsOf 12 = .ok (.sipush 254, 3) := by decide +kernel
theorem dX8_bitsOf_15 : decode cX8_bitsOf 15 = .ok (.if_icmp .ge 13, 3) := by decide +kernel
theorem dX8_bitsOf_18 : decode cX8_bitsOf 18 = .ok (.fload_n 1, 1) := by decide +kernel
theorem dX8_bitsOf_19 : decode cX8_bitsOf 19 = .ok (.fconst 2, 1) := by decide +kernel
theorem dX8_bitsOf_20 : decode cX8_bitsOf 20 = .ok (.fdiv, 1) := by decide +kernel
theorem dX8_bitsOf_21 : decode cX8_bitsOf 21 = .ok (.fstore_n 1, 1) := by decide +kernel
theorem dX8_bitsOf_22 : decode cX8_bitsOf 22 = .ok (.iinc 2 1, 3) := by decide +kernel
theorem dX8_bitsOf_25 : decode cX8_bitsOf 25 = .ok (.goto (-20), 3) := by decide +kernel
theorem dX8_bitsOf_28 : decode cX8_bitsOf 28 = .ok (.fload_n 1, 1) := by decide +kernel
theorem dX8_bitsOf_29 : decode cX8_bitsOf 29 = .ok (.fconst 1, 1) := by decide +kernel
theorem dX8_bitsOf_30 : decode cX8_bitsOf 30 = .ok (.fcmp .g, 1) := by decide +kernel
theorem dX8_bitsOf_31 : decode cX8_bitsOf 31 = .ok (.ifCond .ge 18, 3) := by decide +kernel
theorem dX8_bitsOf_34 : decode cX8_bitsOf 34 = .ok (.iload_n 2, 1) := by decide +kernel
theorem dX8_bitsOf_35 : decode cX8_bitsOf 35 = .ok (.iconst 1, 1) := by decide +kernel
theorem dX8_bitsOf_36 : decode cX8_bitsOf 36 = .ok (.if_icmp .le 13, 3) := by decide +kernel
theorem dX8_bitsOf_39 : decode cX8_bitsOf 39 = .ok (.fload_n 1, 1) := by decide +kernel
theorem dX8_bitsOf_40 : decode cX8_bitsOf 40 = .ok (.fconst 2, 1) := by decide +kernel
theorem dX8_bitsOf_41 : decode cX8_bitsOf 41 = .ok (.fmul, 1) := by decide +kernel
theorem dX8_bitsOf_42 : decode cX8_bitsOf 42 = .ok (.fstore_n 1, 1) := by decide +kernel
theorem dX8_bitsOf_43 : decode cX8_bitsOf 43 = .ok (.iinc 2 (-1), 3) := by decide +kernel
theorem dX8_bitsOf_46 : decode cX8_bitsOf 46 = .ok (.goto (-18), 3) := by decide +kernel
theorem dX8_bitsOf_49 : decode cX8_bitsOf 49 = .ok (.iload_n 2, 1) := by decide +kernel
theorem dX8_bitsOf_50 : decode cX8_bitsOf 50 = .ok (.iconst 1, 1) := by decide +kernel
theorem dX8_bitsOf_51 : decode cX8_bitsOf 51 = .ok (.isub, 1) := by decide +kernel
theorem dX8_bitsOf_52 : decode cX8_bitsOf 52 = .ok (.bipush 23, 2) := by decide +kernel
theorem dX8_bitsOf_54 : decode cX8_bitsOf 54 = .ok (.ishl, 1) := by decide +kernel
theorem dX8_bitsOf_55 : decode cX8_bitsOf 55 = .ok (.fload_n 1, 1) := by decide +kernel
theorem dX8_bitsOf_56 : decode cX8_bitsOf 56 = .ok (.ldc_w 298, 3) := by decide +kernel
theorem dX8_bitsOf_59 : decode cX8_bitsOf 59 = .ok (.fmul, 1) := by decide +kernel
theorem dX8_bitsOf_60 : decode cX8_bitsOf 60 = .ok (.f2i, 1) := by decide +kernel
theorem dX8_bitsOf_61 : decode cX8_bitsOf 61 = .ok (.iadd, 1) := by decide +kernel
theorem dX8_bitsOf_62 : decode cX8_bitsOf 62 = .ok (.ireturn, 1) := by decide +kernel
theorem dX9_init_0 : decode cX9_init 0 = .ok (.aload_n 0, 1) := by decide +kernel
theorem dX9_init_1 : decode cX9_init 1 = .ok (.invokespecial 1, 3) := by decide +kernel
theorem dX9_init_4 : decode cX9_init 4 = .ok (.aload_n 0, 1) := by decide +kernel
theorem dX9_init_5 : decode cX9_init 5 = .ok (.sipush 316, 3) := by decide +kernel
theorem dX9_init_8 : decode cX9_init 8 = .ok (.newarray .int, 2) := by decide +kernel
theorem dX9_init_10 : decode cX9_init 10 = .ok (.putfield 7, 3) := by decide +kernel
theorem dX9_init_13 : decode cX9_init 13 = .ok (.aload_n 0, 1) := by decide +kernel
theorem dX9_init_14 : decode cX9_init 14 = .ok (.sipush 1264, 3) := by decide +kernel
theorem dX9_init_17 : decode cX9_init 17 = .ok (.newarray .int, 2) := by decide +kernel
theorem dX9_init_19 : decode cX9_init 19 = .ok (.putfield 13, 3) := by decide +kernel
theorem dX9_init_22 : decode cX9_init 22 = .ok (.aload_n 0, 1) := by decide +kernel
theorem dX9_init_23 : decode cX9_init 23 = .ok (.sipush 316, 3) := by decide +kernel
theorem dX9_init_26 : decode cX9_init 26 = .ok (.newarray .int, 2) := by decide +kernel
theorem dX9_init_28 : decode cX9_init 28 = .ok (.putfield 16, 3) := by decide +kernel
theorem dX9_init_31 : decode cX9_init 31 = .ok (.aload_n 0, 1) := by decide +kernel
theorem dX9_init_32 : decode cX9_init 32 = .ok (.sipush 316, 3) := by decide +kernel
theorem dX9_init_35 : decode cX9_init 35 = .ok (.newarray .int, 2) := by decide +kernel
theorem dX9_init_37 : decode cX9_init 37 = .ok (.putfield 19, 3) := by decide +kernel
theorem dX9_init_40 : decode cX9_init 40 = .ok (.aload_n 0, 1) := by decide +kernel
theorem dX9_init_41 : decode cX9_init 41 = .ok (.bipush 40, 2) := by decide +kernel
theorem dX9_init_43 : decode cX9_init 43 = .ok (.newarray .int, 2) := by decide +kernel
theorem dX9_init_45 : decode cX9_init 45 = .ok (.putfield 22, 3) := by decide +kernel
theorem dX9_init_48 : decode cX9_init 48 = .ok (.aload_n 0, 1) := by decide +kernel
theorem dX9_init_49 : decode cX9_init 49 = .ok (.bipush 40, 2) := by decide +kernel
theorem dX9_init_51 : decode cX9_init 51 = .ok (.newarray .int, 2) := by decide +kernel
theorem dX9_init_53 : decode cX9_init 53 = .ok (.putfield 25, 3) := by decide +kernel
theorem dX9_init_56 : decode cX9_init 56 = .ok (.aload_n 0, 1) := by decide +kernel
theorem dX9_init_57 : decode cX9_init 57 = .ok (.bipush 40, 2) := by decide +kernel
theorem dX9_init_59 : decode cX9_init 59 = .ok (.newarray .int, 2) := by decide +kernel
theorem dX9_init_61 : decode cX9_init 61 = .ok (.putfield 28, 3) := by decide +kernel
theorem dX9_init_64 : decode cX9_init 64 = .ok (.aload_n 0, 1) := by decide +kernel
theorem dX9_init_65 : decode cX9_init 65 = .ok (.bipush 40, 2) := by decide +kernel
theorem dX9_init_67 : decode cX9_init 67 = .ok (.newarray .int, 2) := by decide +kernel
theorem dX9_init_69 : decode cX9_init 69 = .ok (.putfield 31, 3) := by decide +kernel
theorem dX9_init_72 : decode cX9_init 72 = .ok (.aload_n 0, 1) := by decide +kernel
theorem dX9_init_73 : decode cX9_init 73 = .ok (.bipush 40, 2) := by decide +kernel
theorem dX9_init_75 : decode cX9_init 75 = .ok (.newarray .int, 2) := by decide +kernel
theorem dX9_init_77 : decode cX9_init 77 = .ok (.putfield 34, 3) := by decide +kernel
theorem dX9_init_80 : decode cX9_init 80 = .ok (.aload_n 0, 1) := by decide +kernel
theorem dX9_init_81 : decode cX9_init 81 = .ok (.sipush 160, 3) := by decide +kernel
theorem dX9_init_84 : decode cX9_init 84 = .ok (.newarray .int, 2) := by decide +kernel
theorem dX9_init_86 : decode cX9_init 86 = .ok (.putfield 37, 3) := by decide +kernel
theorem dX9_init_89 : decode cX9_init 89 = .ok (.aload_n 0, 1) := by decide +kernel
theorem dX9_init_90 : decode cX9_init 90 = .ok (.bipush 60, 2) := by decide +kernel
theorem dX9_init_92 : decode cX9_init 92 = .ok (.newarray .char, 2) := by decide +kernel
theorem dX9_init_94 : decode cX9_init 94 = .ok (.putfield 40, 3) := by decide +kernel
theorem dX9_init_97 : decode cX9_init 97 = .ok (.aload_n 0, 1) := by decide +kernel
theorem dX9_init_98 : decode cX9_init 98 = .ok (.getfield 7, 3) := by decide +kernel
theorem dX9_init_101 : decode cX9_init 101 = .ok (.iconst 1, 1) := by decide +kernel
theorem dX9_init_102 : decode cX9_init 102 = .ok (.iconst 3, 1) := by decide +kernel
theorem dX9_init_103 : decode cX9_init 103 = .ok (.iastore, 1) := by decide +kernel
theorem dX9_init_104 : decode cX9_init 104 = .ok (.aload_n 0, 1) := by decide +kernel
theorem dX9_init_105 : decode cX9_init 105 = .ok (.getfield 7, 3) := by decide +kernel
theorem dX9_init_108 : decode cX9_init 108 = .ok (.iconst 2, 1) := by decide +kernel
theorem dX9_init_109 : decode cX9_init 109 = .ok (.bipush 100, 2) := by decide +kernel
theorem dX9_init_111 : decode cX9_init 111 = .ok (.iastore, 1) := by decide +kernel
theorem dX9_init_112 : decode cX9_init 112 = .ok (.aload_n 0, 1) := by decide +kernel
theorem dX9_init_113 : decode cX9_init 113 = .ok (.getfield 7, 3) := by decide +kernel
theorem dX9_init_116 : decode cX9_init 116 = .ok (.iconst 3, 1) := by decide +kernel
theorem dX9_init_117 : decode cX9_init 117 = .ok (.bipush 100, 2) := by decide +kernel
theorem dX9_init_119 : decode cX9_init 119 = .ok (.iastore, 1) := by decide +kernel
theorem dX9_init_120 : decode cX9_init 120 = .ok (.return_, 1) := by decide +kernel
theorem dX9_in_0 : decode cX9_in 0 = .ok (.iload_n 0, 1) := by decide +kernel
theorem dX9_in_1 : decode cX9_in 1 = .ok (.iload_n 1, 1) := by decide +kernel
theorem dX9_in_2 : decode cX9_in 2 = .ok (.if_icmp .lt 12, 3) := by decide +kernel
theorem dX9_in_5 : decode cX9_in 5 = .ok (.iload_n 0, 1) := by decide +kernel
theorem dX9_in_6 : decode cX9_in 6 = .ok (.iload_n 2, 1) := by decide +kernel
theorem dX9_in_7 : decode cX9_in 7 = .ok (.if_icmp .gt 7, 3) := by decide +kernel
theorem dX9_in_10 : decode cX9_in 10 = .ok (.iconst 1, 1) := by decide +kernel
theorem dX9_in_11 : decode cX9_in 11 = .ok (.goto 4, 3) := by decide +kernel
theorem dX9_in_14 : decode cX9_in 14 = .ok (.iconst 0, 1) := by decide +kernel
theorem dX9_in_15 : decode cX9_in 15 = .ok (.ireturn, 1) := by decide +kernel
theorem dX9_record_0 : decode cX9_record 0 = .ok (.aload_n 0, 1) := by decide +kernel
theorem dX9_record_1 : decode cX9_record 1 = .ok (.getfield 44, 3) := by decide +kernel
theorem dX9_record_4 : decode cX9_record 4 = .ok (.iconst 4, 1) := by decide +kernel
theorem dX9_record_5 : decode cX9_record 5 = .ok (.if_icmp .ne 44, 3) := by decide +kernel
theorem dX9_record_8 : decode cX9_record 8 = .ok (.iconst 0, 1) := by decide +kernel
theorem dX9_record_9 : decode cX9_record 9 = .ok (.istore_n 1, 1) := by decide +kernel
theorem dX9_record_10 : decode cX9_record 10 = .ok (.iload_n 1, 1) := by decide +kernel
theorem dX9_record_11 : decode cX9_record 11 = .ok (.sipush 948, 3) := by decide +kernel
theorem dX9_record_14 : decode cX9_record 14 = .ok (.if_icmp .ge 25, 3) := by decide +kernel
theorem dX9_record_17 : decode cX9_record 17 = .ok (.aload_n 0, 1) := by decide +kernel
theorem dX9_record_18 : decode cX9_record 18 = .ok (.getfield 13, 3) := by decide +kernel
theorem dX9_record_21 : decode cX9_record 21 = .ok (.iload_n 1, 1) := by decide +kernel
theorem dX9_record_22 : decode cX9_record 22 = .ok (.aload_n 0, 1) := by decide +kernel
theorem dX9_record_23 : decode cX9_record 23 = .ok (.getfield 13, 3) := by decide +kernel
theorem dX9_record_26 : decode cX9_record 26 = .ok (.sipush 316, 3) := by decide +kernel
theorem dX9_record_29 : decode cX9_record 29 = .ok (.iload_n 1, 1) := by decide +kernel
theorem dX9_record_30 : decode cX9_record 30 = .ok (.iadd, 1) := by decide +kernel
theorem dX9_record_31 : decode cX9_record 31 = .ok (.iaload, 1) := by decide +kernel
theorem dX9_record_32 : decode cX9_record 32 = .ok (.iastore, 1) := by decide +kernel
theorem dX9_record_33 : decode cX9_record 33 = .ok (.iinc 1 1, 3) := by decide +kernel
theorem dX9_record_36 : decode cX9_record 36 = .ok (.goto (-26), 3) := by decide +kernel
theorem dX9_record_39 : decode cX9_record 39 = .ok (.aload_n 0, 1) := by decide +kernel
theorem dX9_record_40 : decode cX9_record 40 = .ok (.dup, 1) := by decide +kernel
theorem dX9_record_41 : decode cX9_record 41 = .ok (.getfield 44, 3) := by decide +kernel
theorem dX9_record_44 : decode cX9_record 44 = .ok (.iconst 1, 1) := by decide +kernel
theorem dX9_record_45 : decode cX9_record 45 = .ok (.isub, 1) := by decide +kernel
theorem dX9_record_46 : decode cX9_record 46 = .ok (.putfield 44, 3) := by decide +kernel
theorem dX9_record_49 : decode cX9_record 49 = .ok (.iconst 0, 1) := by decide +kernel
theorem dX9_record_50 : decode cX9_record 50 = .ok (.istore_n 1, 1) := by decide +kernel
theorem dX9_record_51 : decode cX9_record 51 = .ok (.iload_n 1, 1) := by decide +kernel
theorem dX9_record_52 : decode cX9_record 52 = .ok (.sipush 316, 3) := by decide +kernel
theorem dX9_record_55 : decode cX9_record 55 = .ok (.if_icmp .ge 30, 3) := by decide +kernel
theorem dX9_record_58 : decode cX9_record 58 = .ok (.aload_n 0, 1) := by decide +kernel
theorem dX9_record_59 : decode cX9_record 59 = .ok (.getfield 13, 3) := by decide +kernel
theorem dX9_record_62 : decode cX9_record 62 = .ok (.sipush 316, 3) := by decide +kernel
theorem dX9_record_65 : decode cX9_record 65 = .ok (.aload_n 0, 1) := by decide +kernel
theorem dX9_record_66 : decode cX9_record 66 = .ok (.getfield 44, 3) := by decide +kernel
theorem dX9_record_69 : decode cX9_record 69 = .ok (.imul, 1) := by decide +kernel
theorem dX9_record_70 : decode cX9_record 70 = .ok (.iload_n 1, 1) := by decide +kernel
theorem dX9_record_71 : decode cX9_record 71 = .ok (.iadd, 1) := by decide +kernel
theorem dX9_record_72 : decode cX9_record 72 = .ok (.aload_n 0, 1) := by decide +kernel
theorem dX9_record_73 : decode cX9_record 73 = .ok (.getfield 7, 3) := by decide +kernel
theorem dX9_record_76 : decode cX9_record 76 = .ok (.iload_n 1, 1) := by decide +kernel
theorem dX9_record_77 : decode cX9_record 77 = .ok (.iaload, 1) := by decide +kernel
theorem dX9_record_78 : decode cX9_record 78 = .ok (.iastore, 1) := by decide +kernel
theorem dX9_record_79 : decode cX9_record 79 = .ok (.iinc 1 1, 3) := by decide +kernel
theorem dX9_record_82 : decode cX9_record 82 = .ok (.goto (-31), 3) := by decide +kernel
theorem dX9_record_85 : decode cX9_record 85 = .ok (.aload_n 0, 1) := by decide +kernel
theorem dX9_record_86 : decode cX9_record 86 = .ok (.dup, 1) := by decide +kernel
theorem dX9_record_87 : decode cX9_record 87 = .ok (.getfield 44, 3) := by decide +kernel
theorem dX9_record_90 : decode cX9_record 90 = .ok (.iconst 1, 1) := by decide +kernel
theorem dX9_record_91 : decode cX9_record 91 = .ok (.iadd, 1) := by decide +kernel
theorem dX9_record_92 : decode cX9_record 92 = .ok (.putfield 44, 3) := by decide +kernel
theorem dX9_record_95 : decode cX9_record 95 = .ok (.return_, 1) := by decide +kernel
theorem dX9_of_0 : decode cX9_of 0 = .ok (.aload_n 0, 1) := by decide +kernel
theorem dX9_of_1 : decode cX9_of 1 = .ok (.getfield 7, 3) := by decide +kernel
theorem dX9_of_4 : decode cX9_of 4 = .ok (.iconst 4, 1) := by decide +kernel
theorem dX9_of_5 : decode cX9_of 5 = .ok (.iconst 5, 1) := by decide +kernel
theorem dX9_of_6 : decode cX9_of 6 = .ok (.iload_n 1, 1) := by decide +kernel
theorem dX9_of_7 : decode cX9_of 7 = .ok (.imul, 1) := by decide +kernel
theorem dX9_of_8 : decode cX9_of 8 = .ok (.iadd, 1) := by decide +kernel
theorem dX9_of_9 : decode cX9_of 9 = .ok (.iload_n 2, 1) := by decide +kernel
theorem dX9_of_10 : decode cX9_of 10 = .ok (.iadd, 1) := by decide +kernel
theorem dX9_of_11 : decode cX9_of 11 = .ok (.iaload, 1) := by decide +kernel
theorem dX9_of_12 : decode cX9_of 12 = .ok (.ireturn, 1) := by decide +kernel
theorem dX9_row_0 : decode cX9_row 0 = .ok (.sipush 204, 3) := by decide +kernel
theorem dX9_row_3 : decode cX9_row 3 = .ok (.bipush 7, 2) := by decide +kernel
theorem dX9_row_5 : decode cX9_row 5 = .ok (.iload_n 0, 1) := by decide +kernel
theorem dX9_row_6 : decode cX9_row 6 = .ok (.imul, 1) := by decide +kernel
theorem dX9_row_7 : decode cX9_row 7 = .ok (.iadd, 1) := by decide +kernel
theorem dX9_row_8 : decode cX9_row 8 = .ok (.ireturn, 1) := by decide +kernel
set_option maxRecDepth 20000 in
theorem ggX9_isCard_X9_in : GoodIn wsX9_isCard wsX9_in := goodIn_r _ [5] (by decide +kernel) (by decide +kernel)
set_option maxRecDepth 20000 in
theorem gX9_isCard_X9_in : GoodIn wsX9_isCard (va_wsS RX9 48 yX9_in wsX9_in) := goodIn_app (goodIn_of _ (by decide +kernel)) ggX9_isCard_X9_in
theorem dX9_isCard_0 : decode cX9_isCard 0 = .ok (.iload_n 1, 1) := by decide +kernel
theorem dX9_isCard_1 : decode cX9_isCard 1 = .ok (.iconst 0, 1) := by decide +kernel
theorem dX9_isCard_2 : decode cX9_isCard 2 = .ok (.aload_n 0, 1) := by decide +kernel
theorem dX9_isCard_3 : decode cX9_isCard 3 = .ok (.getfield 7, 3) := by decide +kernel
theorem dX9_isCard_6 : decode cX9_isCard 6 = .ok (.iconst 0, 1) := by decide +kernel
theorem dX9_isCard_7 : decode cX9_isCard 7 = .ok (.iaload, 1) := by decide +kernel
theorem dX9_isCard_8 : decode cX9_isCard 8 = .ok (.iconst 1, 1) := by decide +kernel
theorem dX9_isCard_9 : decode cX9_isCard 9 = .ok (.isub, 1) := by decide +kernel
theorem dX9_isCard_10 : decode cX9_isCard 10 = .ok (.invokestatic 48, 3) := by decide +kernel
theorem dX9_isCard_13 : decode cX9_isCard 13 = .ok (.ireturn, 1) := by decide +kernel
set_option maxRecDepth 20000 in
theorem ggX9_layOrder_X9_row : GoodIn wsX9_layOrder wsX9_row := goodIn_r _ [8] (by decide +kernel) (by decide +kernel)
set_option maxRecDepth 20000 in
theorem gX9_layOrder_X9_row : GoodIn wsX9_layOrder (va_wsS RX9 55 yX9_row wsX9_row) := goodIn_app (goodIn_of _ (by decide +kernel)) ggX9_layOrder_X9_row
theorem dX9_layOrder_0 : decode cX9_layOrder 0 = .ok (.aload_n 0, 1) := by decide +kernel
theorem dX9_layOrder_1 : decode cX9_layOrder 1 = .ok (.iconst 0, 1) := by decide +kernel
theorem dX9_layOrder_2 : decode cX9_layOrder 2 = .ok (.putfield 52, 3) := by decide +kernel
theorem dX9_layOrder_5 : decode cX9_layOrder 5 = .ok (.iconst 0, 1) := by decide +kernel
theorem dX9_layOrder_6 : decode cX9_layOrder 6 = .ok (.istore_n 1, 1) := by decide +kernel
theorem dX9_layOrder_7 : decode cX9_layOrder 7 = .ok (.iload_n 1, 1) := by decide +kernel
theorem dX9_layOrder_8 : decode cX9_layOrder 8 = .ok (.bipush 40, 2) := by decide +kernel
theorem dX9_layOrder_10 : decode cX9_layOrder 10 = .ok (.if_icmp .ge 17, 3) := by decide +kernel
theorem dX9_layOrder_13 : decode cX9_layOrder 13 = .ok (.aload_n 0, 1) := by decide +kernel
theorem dX9_layOrder_14 : decode cX9_layOrder 14 = .ok (.getfield 25, 3) := by decide +kernel
theorem dX9_layOrder_17 : decode cX9_layOrder 17 = .ok (.iload_n 1, 1) := by decide +kernel
theorem dX9_layOrder_18 : decode cX9_layOrder 18 = .ok (.bipush (-5), 2) := by decide +kernel
theorem dX9_layOrder_20 : decode cX9_layOrder 20 = .ok (.iastore, 1) := by decide +kernel
theorem dX9_layOrder_21 : decode cX9_layOrder 21 = .ok (.iinc 1 1, 3) := by decide +kernel
theorem dX9_layOrder_24 : decode cX9_layOrder 24 = .ok (.goto (-17), 3) := by decide +kernel
theorem dX9_layOrder_27 : decode cX9_layOrder 27 = .ok (.iconst 0, 1) := by decide +kernel
theorem dX9_layOrder_28 : decode cX9_layOrder 28 = .ok (.istore_n 1, 1) := by decide +kernel
theorem dX9_layOrder_29 : decode cX9_layOrder 29 = .ok (.iload_n 1, 1) := by decide +kernel
theorem dX9_layOrder_30 : decode cX9_layOrder 30 = .ok (.bipush 16, 2) := by decide +kernel
theorem dX9_layOrder_32 : decode cX9_layOrder 32 = .ok (.if_icmp .ge 74, 3) := by decide +kernel
theorem dX9_layOrder_35 : decode cX9_layOrder 35 = .ok (.iconst 0, 1) := by decide +kernel
theorem dX9_layOrder_36 : decode cX9_layOrder 36 = .ok (.istore_n 2, 1) := by decide +kernel
theorem dX9_layOrder_37 : decode cX9_layOrder 37 = .ok (.iload_n 2, 1) := by decide +kernel
theorem dX9_layOrder_38 : decode cX9_layOrder 38 = .ok (.aload_n 0, 1) := by decide +kernel
theorem dX9_layOrder_39 : decode cX9_layOrder 39 = .ok (.getfield 7, 3) := by decide +kernel
theorem dX9_layOrder_42 : decode cX9_layOrder 42 = .ok (.iload_n 1, 1) := by decide +kernel
theorem dX9_layOrder_43 : decode cX9_layOrder 43 = .ok (.invokestatic 55, 3) := by decide +kernel
theorem dX9_layOrder_46 : decode cX9_layOrder 46 = .ok (.iaload, 1) := by decide +kernel
theorem dX9_layOrder_47 : decode cX9_layOrder 47 = .ok (.if_icmp .ge 53, 3) := by decide +kernel
theorem dX9_layOrder_50 : decode cX9_layOrder 50 = .ok (.aload_n 0, 1) := by decide +kernel
theorem dX9_layOrder_51 : decode cX9_layOrder 51 = .ok (.getfield 7, 3) := by decide +kernel
theorem dX9_layOrder_54 : decode cX9_layOrder 54 = .ok (.iload_n 1, 1) := by decide +kernel
theorem dX9_layOrder_55 : decode cX9_layOrder 55 = .ok (.invokestatic 55, 3) := by decide +kernel
theorem dX9_layOrder_58 : decode cX9_layOrder 58 = .ok (.iconst 1, 1) := by decide +kernel
theorem dX9_layOrder_59 : decode cX9_layOrder 59 = .ok (.iadd, 1) := by decide +kernel
theorem dX9_layOrder_60 : decode cX9_layOrder 60 = .ok (.iload_n 2, 1) := by decide +kernel
theorem dX9_layOrder_61 : decode cX9_layOrder 61 = .ok (.iadd, 1) := by decide +kernel
theorem dX9_layOrder_62 : decode cX9_layOrder 62 = .ok (.iaload, 1) := by decide +kernel
theorem dX9_layOrder_63 : decode cX9_layOrder 63 = .ok (.istore_n 3, 1) := by decide +kernel
theorem dX9_layOrder_64 : decode cX9_layOrder 64 = .ok (.aload_n 0, 1) := by decide +kernel
theorem dX9_layOrder_65 : decode cX9_layOrder 65 = .ok (.getfield 22, 3) := by decide +kernel
theorem dX9_layOrder_68 : decode cX9_layOrder 68 = .ok (.aload_n 0, 1) := by decide +kernel
theorem dX9_layOrder_69 : decode cX9_layOrder 69 = .ok (.getfield 52, 3) := by decide +kernel
theorem dX9_layOrder_72 : decode cX9_layOrder 72 = .ok (.iload_n 3, 1) := by decide +kernel
theorem dX9_layOrder_73 : decode cX9_layOrder 73 = .ok (.iastore, 1) := by decide +kernel
theorem dX9_layOrder_74 : decode cX9_layOrder 74 = .ok (.aload_n 0, 1) := by decide +kernel
theorem dX9_layOrder_75 : decode cX9_layOrder 75 = .ok (.getfield 25, 3) := by decide +kernel
theorem dX9_layOrder_78 : decode cX9_layOrder 78 = .ok (.iload_n 3, 1) := by decide +kernel
theorem dX9_layOrder_79 : decode cX9_layOrder 79 = .ok (.aload_n 0, 1) := by decide +kernel
theorem dX9_layOrder_80 : decode cX9_layOrder 80 = .ok (.getfield 52, 3) := by decide +kernel
theorem dX9_layOrder_83 : decode cX9_layOrder 83 = .ok (.iastore, 1) := by decide +kernel
theorem dX9_layOrder_84 : decode cX9_layOrder 84 = .ok (.aload_n 0, 1) := by decide +kernel
theorem dX9_layOrder_85 : decode cX9_layOrder 85 = .ok (.dup, 1) := by decide +kernel
theorem dX9_layOrder_86 : decode cX9_layOrder 86 = .ok (.getfield 52, 3) := by decide +kernel
theorem dX9_layOrder_89 : decode cX9_layOrder 89 = .ok (.iconst 1, 1) := by decide +kernel
theorem dX9_layOrder_90 : decode cX9_layOrder 90 = .ok (.iadd, 1) := by decide +kernel
theorem dX9_layOrder_91 : decode cX9_layOrder 91 = .ok (.putfield 52, 3) := by decide +kernel
theorem dX9_layOrder_94 : decode cX9_layOrder 94 = .ok (.iinc 2 1, 3) := by decide +kernel
theorem dX9_layOrder_97 : decode cX9_layOrder 97 = .ok (.goto (-60), 3) := by decide +kernel
theorem dX9_layOrder_100 : decode cX9_layOrder 100 = .ok (.iinc 1 1, 3) := by decide +kernel
theorem dX9_layOrder_103 : decode cX9_layOrder 103 = .ok (.goto (-74), 3) := by decide +kernel
theorem dX9_layOrder_106 : decode cX9_layOrder 106 = .ok (.return_, 1) := by decide +kernel
set_option maxRecDepth 20000 in
theorem ggX9_sceneOf_X9_row : GoodIn wsX9_sceneOf wsX9_row := goodIn_r _ [5] (by decide +kernel) (by decide +kernel)
set_option maxRecDepth 20000 in
theorem gX9_sceneOf_X9_row : GoodIn wsX9_sceneOf (va_wsS RX9 55 yX9_row wsX9_row) := goodIn_app (goodIn_of _ (by decide +kernel)) ggX9_sceneOf_X9_row
theorem dX9_sceneOf_0 : decode cX9_sceneOf 0 = .ok (.bipush (-5), 2) := by decide +kernel
theorem dX9_sceneOf_2 : decode cX9_sceneOf 2 = .ok (.istore_n 2, 1) := by decide +kernel
theorem dX9_sceneOf_3 : decode cX9_sceneOf 3 = .ok (.iconst 0, 1) := by decide +kernel
theorem dX9_sceneOf_4 : decode cX9_sceneOf 4 = .ok (.istore_n 3, 1) := by decide +kernel
theorem dX9_sceneOf_5 : decode cX9_sceneOf 5 = .ok (.iload_n 3, 1) := by decide +kernel
theorem dX9_sceneOf_6 : decode cX9_sceneOf 6 = .ok (.bipush 16, 2) := by decide +kernel
theorem dX9_sceneOf_8 : decode cX9_sceneOf 8 = .ok (.if_icmp .ge 56, 3) := by decide +kernel
theorem dX9_sceneOf_11 : decode cX9_sceneOf 11 = .ok (.iconst 0, 1) := by decide +kernel
theorem dX9_sceneOf_12 : decode cX9_sceneOf 12 = .ok (.istore 4, 2) := by decide +kernel
theorem dX9_sceneOf_14 : decode cX9_sceneOf 14 = .ok (.iload 4, 2) := by decide +kernel
theorem dX9_sceneOf_16 : decode cX9_sceneOf 16 = .ok (.aload_n 0, 1) := by decide +kernel
theorem dX9_sceneOf_17 : decode cX9_sceneOf 17 = .ok (.getfield 7, 3) := by decide +kernel
theorem dX9_sceneOf_20 : decode cX9_sceneOf 20 = .ok (.iload_n 3, 1) := by decide +kernel
theorem dX9_sceneOf_21 : decode cX9_sceneOf 21 = .ok (.invokestatic 55, 3) := by decide +kernel
theorem dX9_sceneOf_24 : decode cX9_sceneOf 24 = .ok (.iaload, 1) := by decide +kernel
theorem dX9_sceneOf_25 : decode cX9_sceneOf 25 = .ok (.if_icmp .ge 33, 3) := by decide +kernel
theorem dX9_sceneOf_28 : decode cX9_sceneOf 28 = .ok (.aload_n 0, 1) := by decide +kernel
theorem dX9_sceneOf_29 : decode cX9_sceneOf 29 = .ok (.getfield 7, 3) := by decide +kernel
theorem dX9_sceneOf_32 : decode cX9_sceneOf 32 = .ok (.iload_n 3, 1) := by decide +kernel
theorem dX9_sceneOf_33 : decode cX9_sceneOf 33 = .ok (.invokestatic 55, 3) := by decide +kernel
theorem dX9_sceneOf_36 : decode cX9_sceneOf 36 = .ok (.iconst 1, 1) := by decide +kernel
theorem dX9_sceneOf_37 : decode cX9_sceneOf 37 = .ok (.iadd, 1) := by decide +kernel
theorem dX9_sceneOf_38 : decode cX9_sceneOf 38 = .ok (.iload 4, 2) := by decide +kernel
theorem dX9_sceneOf_40 : decode cX9_sceneOf 40 = .ok (.iadd, 1) := by decide +kernel
theorem dX9_sceneOf_41 : decode cX9_sceneOf 41 = .ok (.iaload, 1) := by decide +kernel
theorem dX9_sceneOf_42 : decode cX9_sceneOf 42 = .ok (.iload_n 1, 1) := by decide +kernel
theorem dX9_sceneOf_43 : decode cX9_sceneOf 43 = .ok (.if_icmp .ne 7, 3) := by decide +kernel
theorem dX9_sceneOf_46 : decode cX9_sceneOf 46 = .ok (.iload_n 3, 1) := by decide +kernel
theorem dX9_sceneOf_47 : decode cX9_sceneOf 47 = .ok (.goto 4, 3) := by decide +kernel
theorem dX9_sceneOf_50 : decode cX9_sceneOf 50 = .ok (.iload_n 2, 1) := by decide +kernel
theorem dX9_sceneOf_51 : decode cX9_sceneOf 51 = .ok (.istore_n 2, 1) := by decide +kernel
theorem dX9_sceneOf_52 : decode cX9_sceneOf 52 = .ok (.iinc 4 1, 3) := by decide +kernel
theorem dX9_sceneOf_55 : decode cX9_sceneOf 55 = .ok (.goto (-41), 3) := by decide +kernel
theorem dX9_sceneOf_58 : decode cX9_sceneOf 58 = .ok (.iinc 3 1, 3) := by decide +kernel
theorem dX9_sceneOf_61 : decode cX9_sceneOf 61 = .ok (.goto (-56), 3) := by decide +kernel
theorem dX9_sceneOf_64 : decode cX9_sceneOf 64 = .ok (.iload_n 2, 1) := by decide +kernel
theorem dX9_sceneOf_65 : decode cX9_sceneOf 65 = .ok (.ireturn, 1) := by decide +kernel
set_option maxRecDepth 20000 in
theorem ggX9_placeOf_X9_row : GoodIn wsX9_placeOf wsX9_row := goodIn_r _ [5] (by decide +kernel) (by decide +kernel)
set_option maxRecDepth 20000 in
theorem gX9_placeOf_X9_row : GoodIn wsX9_placeOf (va_wsS RX9 55 yX9_row wsX9_row) := goodIn_app (goodIn_of _ (by decide +kernel)) ggX9_placeOf_X9_row
theorem dX9_placeOf_0 : decode cX9_placeOf 0 = .ok (.bipush (-5), 2) := by decide +kernel
theorem dX9_placeOf_2 : decode cX9_placeOf 2 = .ok (.istore_n 2, 1) := by decide +kernel
theorem dX9_placeOf_3 : decode cX9_placeOf 3 = .ok (.iconst 0, 1) := by decide +kernel
theorem dX9_placeOf_4 : decode cX9_placeOf 4 = .ok (.istore_n 3, 1) := by decide +kernel
theorem dX9_placeOf_5 : decode cX9_placeOf 5 = .ok (.iload_n 3, 1) := by decide +kernel
theorem dX9_placeOf_6 : decode cX9_placeOf 6 = .ok (.bipush 16, 2) := by decide +kernel
theorem dX9_placeOf_8 : decode cX9_placeOf 8 = .ok (.if_icmp .ge 57, 3) := by decide +kernel
theorem dX9_placeOf_11 : decode cX9_placeOf 11 = .ok (.iconst 0, 1) := by decide +kernel
theorem dX9_placeOf_12 : decode cX9_placeOf 12 = .ok (.istore 4, 2) := by decide +kernel
theorem dX9_placeOf_14 : decode cX9_placeOf 14 = .ok (.iload 4, 2) := by decide +kernel
theorem dX9_placeOf_16 : decode cX9_placeOf 16 = .ok (.aload_n 0, 1) := by decide +kernel
theorem dX9_placeOf_17 : decode cX9_placeOf 17 = .ok (.getfield 7, 3) := by decide +kernel
theorem dX9_placeOf_20 : decode cX9_placeOf 20 = .ok (.iload_n 3, 1) := by decide +kernel
theorem dX9_placeOf_21 : decode cX9_placeOf 21 = .ok (.invokestatic 55, 3) := by decide +kernel
theorem dX9_placeOf_24 : decode cX9_placeOf 24 = .ok (.iaload, 1) := by decide +kernel
theorem dX9_placeOf_25 : decode cX9_placeOf 25 = .ok (.if_icmp .ge 34, 3) := by decide +kernel
