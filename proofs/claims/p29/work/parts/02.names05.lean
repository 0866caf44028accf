theorem dX8_card_37 : decode cX8_card 37 = .ok (.ireturn, 1) := by decide +kernel
theorem dX8_card_38 : decode cX8_card 38 = .ok (.aload_n 0, 1) := by decide +kernel
theorem dX8_card_39 : decode cX8_card 39 = .ok (.getfield 43, 3) := by decide +kernel
theorem dX8_card_42 : decode cX8_card 42 = .ok (.aload_n 0, 1) := by decide +kernel
theorem dX8_card_43 : decode cX8_card 43 = .ok (.getfield 10, 3) := by decide +kernel
theorem dX8_card_46 : decode cX8_card 46 = .ok (.aload_n 0, 1) := by decide +kernel
theorem dX8_card_47 : decode cX8_card 47 = .ok (.getfield 10, 3) := by decide +kernel
theorem dX8_card_50 : decode cX8_card 50 = .ok (.getfield 120, 3) := by decide +kernel
theorem dX8_card_53 : decode cX8_card 53 = .ok (.invokevirtual 144, 3) := by decide +kernel
theorem dX8_card_56 : decode cX8_card 56 = .ok (.aload_n 0, 1) := by decide +kernel
theorem dX8_card_57 : decode cX8_card 57 = .ok (.getfield 43, 3) := by decide +kernel
theorem dX8_card_60 : decode cX8_card 60 = .ok (.iload_n 1, 1) := by decide +kernel
theorem dX8_card_61 : decode cX8_card 61 = .ok (.invokevirtual 208, 3) := by decide +kernel
theorem dX8_card_64 : decode cX8_card 64 = .ok (.istore_n 3, 1) := by decide +kernel
theorem dX8_card_65 : decode cX8_card 65 = .ok (.iload_n 2, 1) := by decide +kernel
theorem dX8_card_66 : decode cX8_card 66 = .ok (.tableswitch 87 5 9 #[34, 43, 52, 69, 71], 34) := by decide +kernel
theorem dX8_card_100 : decode cX8_card 100 = .ok (.aload_n 0, 1) := by decide +kernel
theorem dX8_card_101 : decode cX8_card 101 = .ok (.getfield 43, 3) := by decide +kernel
theorem dX8_card_104 : decode cX8_card 104 = .ok (.iload_n 3, 1) := by decide +kernel
theorem dX8_card_105 : decode cX8_card 105 = .ok (.invokevirtual 211, 3) := by decide +kernel
theorem dX8_card_108 : decode cX8_card 108 = .ok (.ireturn, 1) := by decide +kernel
theorem dX8_card_109 : decode cX8_card 109 = .ok (.aload_n 0, 1) := by decide +kernel
theorem dX8_card_110 : decode cX8_card 110 = .ok (.getfield 43, 3) := by decide +kernel
theorem dX8_card_113 : decode cX8_card 113 = .ok (.iload_n 3, 1) := by decide +kernel
theorem dX8_card_114 : decode cX8_card 114 = .ok (.invokevirtual 214, 3) := by decide +kernel
theorem dX8_card_117 : decode cX8_card 117 = .ok (.ireturn, 1) := by decide +kernel
theorem dX8_card_118 : decode cX8_card 118 = .ok (.aload_n 0, 1) := by decide +kernel
theorem dX8_card_119 : decode cX8_card 119 = .ok (.getfield 43, 3) := by decide +kernel
theorem dX8_card_122 : decode cX8_card 122 = .ok (.iload_n 3, 1) := by decide +kernel
theorem dX8_card_123 : decode cX8_card 123 = .ok (.invokevirtual 217, 3) := by decide +kernel
theorem dX8_card_126 : decode cX8_card 126 = .ok (.ifCond .eq 7, 3) := by decide +kernel
theorem dX8_card_129 : decode cX8_card 129 = .ok (.iconst 1, 1) := by decide +kernel
theorem dX8_card_130 : decode cX8_card 130 = .ok (.goto 4, 3) := by decide +kernel
theorem dX8_card_133 : decode cX8_card 133 = .ok (.iconst 0, 1) := by decide +kernel
theorem dX8_card_134 : decode cX8_card 134 = .ok (.ireturn, 1) := by decide +kernel
theorem dX8_card_135 : decode cX8_card 135 = .ok (.iload_n 3, 1) := by decide +kernel
theorem dX8_card_136 : decode cX8_card 136 = .ok (.ireturn, 1) := by decide +kernel
theorem dX8_card_137 : decode cX8_card 137 = .ok (.aload_n 0, 1) := by decide +kernel
theorem dX8_card_138 : decode cX8_card 138 = .ok (.getfield 43, 3) := by decide +kernel
theorem dX8_card_141 : decode cX8_card 141 = .ok (.aload_n 0, 1) := by decide +kernel
theorem dX8_card_142 : decode cX8_card 142 = .ok (.getfield 43, 3) := by decide +kernel
theorem dX8_card_145 : decode cX8_card 145 = .ok (.iload_n 3, 1) := by decide +kernel
theorem dX8_card_146 : decode cX8_card 146 = .ok (.invokevirtual 220, 3) := by decide +kernel
theorem dX8_card_149 : decode cX8_card 149 = .ok (.invokevirtual 223, 3) := by decide +kernel
theorem dX8_card_152 : decode cX8_card 152 = .ok (.ireturn, 1) := by decide +kernel
theorem dX8_card_153 : decode cX8_card 153 = .ok (.bipush (-2), 2) := by decide +kernel
theorem dX8_card_155 : decode cX8_card 155 = .ok (.ireturn, 1) := by decide +kernel
set_option maxRecDepth 20000 in
theorem ggX8_at_X8_isScene : GoodIn wsX8_at wsX8_isScene := goodIn_r _ [5] (by decide +kernel) (by decide +kernel)
set_option maxRecDepth 20000 in
theorem gX8_at_X8_isScene : GoodIn wsX8_at (va_wsS RX8 161 yX8_isScene wsX8_isScene) := goodIn_app (goodIn_of _ (by decide +kernel)) ggX8_at_X8_isScene
set_option maxRecDepth 20000 in
theorem ggX8_at_X7_cardIn : GoodIn wsX8_at wsX7_cardIn := goodIn_r _ [10, 3, 4, 5, 11, 12, 13, 14, 15, 9, 16, 17, 30] (by decide +kernel) (by decide +kernel)
set_option maxRecDepth 20000 in
theorem gX8_at_X7_cardIn : GoodIn wsX8_at (wsV RX8 226 RX7 yX7_cardIn wsX7_cardIn) := goodIn_app (goodIn_of _ (by decide +kernel)) ggX8_at_X7_cardIn
theorem dX8_at_0 : decode cX8_at 0 = .ok (.iload_n 1, 1) := by decide +kernel
theorem dX8_at_1 : decode cX8_at 1 = .ok (.invokestatic 161, 3) := by decide +kernel
theorem dX8_at_4 : decode cX8_at 4 = .ok (.ifCond .ne 5, 3) := by decide +kernel
theorem dX8_at_7 : decode cX8_at 7 = .ok (.iconst (-1), 1) := by decide +kernel
theorem dX8_at_8 : decode cX8_at 8 = .ok (.ireturn, 1) := by decide +kernel
theorem dX8_at_9 : decode cX8_at 9 = .ok (.iload_n 2, 1) := by decide +kernel
theorem dX8_at_10 : decode cX8_at 10 = .ok (.ifCond .ge 6, 3) := by decide +kernel
theorem dX8_at_13 : decode cX8_at 13 = .ok (.bipush (-2), 2) := by decide +kernel
theorem dX8_at_15 : decode cX8_at 15 = .ok (.ireturn, 1) := by decide +kernel
theorem dX8_at_16 : decode cX8_at 16 = .ok (.aload_n 0, 1) := by decide +kernel
theorem dX8_at_17 : decode cX8_at 17 = .ok (.getfield 10, 3) := by decide +kernel
theorem dX8_at_20 : decode cX8_at 20 = .ok (.getfield 120, 3) := by decide +kernel
theorem dX8_at_23 : decode cX8_at 23 = .ok (.iload_n 1, 1) := by decide +kernel
theorem dX8_at_24 : decode cX8_at 24 = .ok (.iload_n 2, 1) := by decide +kernel
theorem dX8_at_25 : decode cX8_at 25 = .ok (.invokevirtual 226, 3) := by decide +kernel
theorem dX8_at_28 : decode cX8_at 28 = .ok (.ireturn, 1) := by decide +kernel
set_option maxRecDepth 20000 in
theorem ggX8_thread_X8_isThread : GoodIn wsX8_thread wsX8_isThread := goodIn_r _ [7] (by decide +kernel) (by decide +kernel)
set_option maxRecDepth 20000 in
theorem gX8_thread_X8_isThread : GoodIn wsX8_thread (va_wsS RX8 65 yX8_isThread wsX8_isThread) := goodIn_app (goodIn_of _ (by decide +kernel)) ggX8_thread_X8_isThread
set_option maxRecDepth 20000 in
theorem ggX8_thread_X3_read : GoodIn wsX8_thread wsX3_read := goodIn_r _ [12, 13, 14, 15, 16, 17, 18, 19, 20, 21, 22, 23, 24, 25, 26, 27, 28, 29, 30, 31, 32, 33, 34, 35, 36, 37, 38, 39, 40, 41, 42, 43, 11, 44, 45, 46, 47, 48, 49, 50, 51, 52, 53, 54, 55, 56, 57, 5, 6, 7, 58, 59, 60, 61, 62, 63, 64, 65, 66, 67, 68, 69, 70, 164, 165, 166, 167, 168, 169, 170, 171, 172, 173, 161, 162, 163, 174, 175, 176] (by decide +kernel) (by decide +kernel)
set_option maxRecDepth 20000 in
theorem gX8_thread_X3_read : GoodIn wsX8_thread (wsV RX8 144 RX3 yX3_read wsX3_read) := goodIn_app (goodIn_of _ (by decide +kernel)) ggX8_thread_X3_read
set_option maxRecDepth 20000 in
theorem ggX8_thread_X3_tally : GoodIn wsX8_thread wsX3_tally := goodIn_r _ [74, 13, 75, 76, 77, 11, 78, 14, 49, 50, 51, 22, 52, 53, 54, 55, 56, 57, 24, 79, 80, 81, 82, 46, 83, 84, 85, 86, 87, 88, 89, 90, 91, 92, 93, 94, 95, 96, 97, 98, 48, 99, 100, 101, 102, 15, 103, 104, 105, 106, 47, 107, 108, 109, 110, 16, 164, 165, 166, 167, 168, 169, 170, 171, 172, 173, 174, 175] (by decide +kernel) (by decide +kernel)
set_option maxRecDepth 20000 in
theorem gX8_thread_X3_tally : GoodIn wsX8_thread (wsV RX8 229 RX3 yX3_tally wsX3_tally) := goodIn_app (goodIn_of _ (by decide +kernel)) ggX8_thread_X3_tally
set_option maxRecDepth 20000 in
theorem ggX8_thread_X1_ofThread : GoodIn wsX8_thread wsX1_ofThread := goodIn_r _ [114, 24, 66, 50, 51, 22, 52, 53, 54, 55, 56, 57, 174, 175] (by decide +kernel) (by decide +kernel)
set_option maxRecDepth 20000 in
theorem gX8_thread_X1_ofThread : GoodIn wsX8_thread (wsV RX8 232 RX1 yX1_ofThread wsX1_ofThread) := goodIn_app (goodIn_of _ (by decide +kernel)) ggX8_thread_X1_ofThread
set_option maxRecDepth 20000 in
theorem ggX8_thread_X5_gather : GoodIn wsX8_thread wsX5_gather := goodIn_r _ [119, 120, 121, 122, 123, 124, 125, 126, 127, 11, 128, 13, 129, 76, 77, 78, 14, 49, 50, 51, 22, 52, 53, 54, 55, 56, 57, 24, 130, 92, 93, 94, 131, 132, 133, 134, 45, 83, 84, 85, 86, 135, 136, 137, 138, 139, 140, 141, 142, 46, 177, 178, 179, 180, 181, 182, 183, 164, 165, 166, 167, 168, 169, 170, 171, 172, 173, 174, 175] (by decide +kernel) (by decide +kernel)
set_option maxRecDepth 20000 in
theorem gX8_thread_X5_gather : GoodIn wsX8_thread (wsV RX8 147 RX5 yX5_gather wsX5_gather) := goodIn_app (goodIn_of _ (by decide +kernel)) ggX8_thread_X5_gather
set_option maxRecDepth 20000 in
theorem ggX8_thread_X5_fewestMoves : GoodIn wsX8_thread wsX5_fewestMoves := goodIn_r _ [146, 120, 123, 147, 148, 149, 150, 151, 177, 178, 179, 180, 181, 182, 183] (by decide +kernel) (by decide +kernel)
set_option maxRecDepth 20000 in
theorem gX8_thread_X5_fewestMoves : GoodIn wsX8_thread (wsV RX8 235 RX5 yX5_fewestMoves wsX5_fewestMoves) := goodIn_app (goodIn_of _ (by decide +kernel)) ggX8_thread_X5_fewestMoves
theorem dX8_thread_0 : decode cX8_thread 0 = .ok (.iload_n 1, 1) := by decide +kernel
theorem dX8_thread_1 : decode cX8_thread 1 = .ok (.invokestatic 65, 3) := by decide +kernel
theorem dX8_thread_4 : decode cX8_thread 4 = .ok (.ifCond .ne 5, 3) := by decide +kernel
theorem dX8_thread_7 : decode cX8_thread 7 = .ok (.iconst (-1), 1) := by decide +kernel
theorem dX8_thread_8 : decode cX8_thread 8 = .ok (.ireturn, 1) := by decide +kernel
theorem dX8_thread_9 : decode cX8_thread 9 = .ok (.aload_n 0, 1) := by decide +kernel
theorem dX8_thread_10 : decode cX8_thread 10 = .ok (.getfield 43, 3) := by decide +kernel
theorem dX8_thread_13 : decode cX8_thread 13 = .ok (.aload_n 0, 1) := by decide +kernel
theorem dX8_thread_14 : decode cX8_thread 14 = .ok (.getfield 10, 3) := by decide +kernel
theorem dX8_thread_17 : decode cX8_thread 17 = .ok (.aload_n 0, 1) := by decide +kernel
theorem dX8_thread_18 : decode cX8_thread 18 = .ok (.getfield 10, 3) := by decide +kernel
theorem dX8_thread_21 : decode cX8_thread 21 = .ok (.getfield 120, 3) := by decide +kernel
theorem dX8_thread_24 : decode cX8_thread 24 = .ok (.invokevirtual 144, 3) := by decide +kernel
theorem dX8_thread_27 : decode cX8_thread 27 = .ok (.iload_n 2, 1) := by decide +kernel
theorem dX8_thread_28 : decode cX8_thread 28 = .ok (.tableswitch 163 0 7 #[48, 60, 84, 96, 108, 128, 140, 152], 48) := by decide +kernel
theorem dX8_thread_76 : decode cX8_thread 76 = .ok (.aload_n 0, 1) := by decide +kernel
theorem dX8_thread_77 : decode cX8_thread 77 = .ok (.getfield 43, 3) := by decide +kernel
theorem dX8_thread_80 : decode cX8_thread 80 = .ok (.bipush 10, 2) := by decide +kernel
theorem dX8_thread_82 : decode cX8_thread 82 = .ok (.iload_n 1, 1) := by decide +kernel
theorem dX8_thread_83 : decode cX8_thread 83 = .ok (.iconst (-1), 1) := by decide +kernel
theorem dX8_thread_84 : decode cX8_thread 84 = .ok (.invokevirtual 229, 3) := by decide +kernel
theorem dX8_thread_87 : decode cX8_thread 87 = .ok (.ireturn, 1) := by decide +kernel
theorem dX8_thread_88 : decode cX8_thread 88 = .ok (.aload_n 0, 1) := by decide +kernel
theorem dX8_thread_89 : decode cX8_thread 89 = .ok (.getfield 10, 3) := by decide +kernel
theorem dX8_thread_92 : decode cX8_thread 92 = .ok (.getfield 73, 3) := by decide +kernel
theorem dX8_thread_95 : decode cX8_thread 95 = .ok (.iload_n 1, 1) := by decide +kernel
theorem dX8_thread_96 : decode cX8_thread 96 = .ok (.invokevirtual 232, 3) := by decide +kernel
theorem dX8_thread_99 : decode cX8_thread 99 = .ok (.aload_n 0, 1) := by decide +kernel
theorem dX8_thread_100 : decode cX8_thread 100 = .ok (.getfield 43, 3) := by decide +kernel
theorem dX8_thread_103 : decode cX8_thread 103 = .ok (.bipush 10, 2) := by decide +kernel
theorem dX8_thread_105 : decode cX8_thread 105 = .ok (.iload_n 1, 1) := by decide +kernel
theorem dX8_thread_106 : decode cX8_thread 106 = .ok (.iconst (-1), 1) := by decide +kernel
theorem dX8_thread_107 : decode cX8_thread 107 = .ok (.invokevirtual 229, 3) := by decide +kernel
theorem dX8_thread_110 : decode cX8_thread 110 = .ok (.isub, 1) := by decide +kernel
theorem dX8_thread_111 : decode cX8_thread 111 = .ok (.ireturn, 1) := by decide +kernel
theorem dX8_thread_112 : decode cX8_thread 112 = .ok (.aload_n 0, 1) := by decide +kernel
theorem dX8_thread_113 : decode cX8_thread 113 = .ok (.getfield 43, 3) := by decide +kernel
theorem dX8_thread_116 : decode cX8_thread 116 = .ok (.bipush 11, 2) := by decide +kernel
theorem dX8_thread_118 : decode cX8_thread 118 = .ok (.iload_n 1, 1) := by decide +kernel
theorem dX8_thread_119 : decode cX8_thread 119 = .ok (.iconst (-1), 1) := by decide +kernel
theorem dX8_thread_120 : decode cX8_thread 120 = .ok (.invokevirtual 229, 3) := by decide +kernel
theorem dX8_thread_123 : decode cX8_thread 123 = .ok (.ireturn, 1) := by decide +kernel
theorem dX8_thread_124 : decode cX8_thread 124 = .ok (.aload_n 0, 1) := by decide +kernel
theorem dX8_thread_125 : decode cX8_thread 125 = .ok (.getfield 43, 3) := by decide +kernel
theorem dX8_thread_128 : decode cX8_thread 128 = .ok (.bipush 12, 2) := by decide +kernel
theorem dX8_thread_130 : decode cX8_thread 130 = .ok (.iload_n 1, 1) := by decide +kernel
theorem dX8_thread_131 : decode cX8_thread 131 = .ok (.iconst (-1), 1) := by decide +kernel
theorem dX8_thread_132 : decode cX8_thread 132 = .ok (.invokevirtual 229, 3) := by decide +kernel
theorem dX8_thread_135 : decode cX8_thread 135 = .ok (.ireturn, 1) := by decide +kernel
theorem dX8_thread_136 : decode cX8_thread 136 = .ok (.aload_n 0, 1) := by decide +kernel
theorem dX8_thread_137 : decode cX8_thread 137 = .ok (.getfield 50, 3) := by decide +kernel
theorem dX8_thread_140 : decode cX8_thread 140 = .ok (.aload_n 0, 1) := by decide +kernel
theorem dX8_thread_141 : decode cX8_thread 141 = .ok (.getfield 43, 3) := by decide +kernel
theorem dX8_thread_144 : decode cX8_thread 144 = .ok (.iload_n 1, 1) := by decide +kernel
theorem dX8_thread_145 : decode cX8_thread 145 = .ok (.invokevirtual 147, 3) := by decide +kernel
theorem dX8_thread_148 : decode cX8_thread 148 = .ok (.aload_n 0, 1) := by decide +kernel
theorem dX8_thread_149 : decode cX8_thread 149 = .ok (.getfield 50, 3) := by decide +kernel
theorem dX8_thread_152 : decode cX8_thread 152 = .ok (.invokevirtual 235, 3) := by decide +kernel
theorem dX8_thread_155 : decode cX8_thread 155 = .ok (.ireturn, 1) := by decide +kernel
theorem dX8_thread_156 : decode cX8_thread 156 = .ok (.aload_n 0, 1) := by decide +kernel
theorem dX8_thread_157 : decode cX8_thread 157 = .ok (.getfield 43, 3) := by decide +kernel
theorem dX8_thread_160 : decode cX8_thread 160 = .ok (.bipush 13, 2) := by decide +kernel
theorem dX8_thread_162 : decode cX8_thread 162 = .ok (.iload_n 1, 1) := by decide +kernel
theorem dX8_thread_163 : decode cX8_thread 163 = .ok (.iconst (-1), 1) := by decide +kernel
theorem dX8_thread_164 : decode cX8_thread 164 = .ok (.invokevirtual 229, 3) := by decide +kernel
theorem dX8_thread_167 : decode cX8_thread 167 = .ok (.ireturn, 1) := by decide +kernel
theorem dX8_thread_168 : decode cX8_thread 168 = .ok (.aload_n 0, 1) := by decide +kernel
theorem dX8_thread_169 : decode cX8_thread 169 = .ok (.getfield 43, 3) := by decide +kernel
theorem dX8_thread_172 : decode cX8_thread 172 = .ok (.bipush 14, 2) := by decide +kernel
theorem dX8_thread_174 : decode cX8_thread 174 = .ok (.iload_n 1, 1) := by decide +kernel
theorem dX8_thread_175 : decode cX8_thread 175 = .ok (.iconst (-1), 1) := by decide +kernel
theorem dX8_thread_176 : decode cX8_thread 176 = .ok (.invokevirtual 229, 3) := by decide +kernel
theorem dX8_thread_179 : decode cX8_thread 179 = .ok (.ireturn, 1) := by decide +kernel
theorem dX8_thread_180 : decode cX8_thread 180 = .ok (.aload_n 0, 1) := by decide +kernel
theorem dX8_thread_181 : decode cX8_thread 181 = .ok (.getfield 43, 3) := by decide +kernel
theorem dX8_thread_184 : decode cX8_thread 184 = .ok (.iconst 2, 1) := by decide +kernel
theorem dX8_thread_185 : decode cX8_thread 185 = .ok (.iload_n 1, 1) := by decide +kernel
theorem dX8_thread_186 : decode cX8_thread 186 = .ok (.iconst (-1), 1) := by decide +kernel
theorem dX8_thread_187 : decode cX8_thread 187 = .ok (.invokevirtual 229, 3) := by decide +kernel
theorem dX8_thread_190 : decode cX8_thread 190 = .ok (.ireturn, 1) := by decide +kernel
theorem dX8_thread_191 : decode cX8_thread 191 = .ok (.bipush (-2), 2) := by decide +kernel
theorem dX8_thread_193 : decode cX8_thread 193 = .ok (.ireturn, 1) := by decide +kernel
set_option maxRecDepth 20000 in
theorem ggX8_scene_X8_isScene : GoodIn wsX8_scene wsX8_isScene := goodIn_r _ [7] (by decide +kernel) (by decide +kernel)
set_option maxRecDepth 20000 in
theorem gX8_scene_X8_isScene : GoodIn wsX8_scene (va_wsS RX8 161 yX8_isScene wsX8_isScene) := goodIn_app (goodIn_of _ (by decide +kernel)) ggX8_scene_X8_isScene
set_option maxRecDepth 20000 in
theorem ggX8_scene_X3_read : GoodIn wsX8_scene wsX3_read := goodIn_r _ [12, 13, 14, 15, 16, 17, 18, 19, 20, 21, 22, 23, 24, 25, 26, 27, 28, 29, 30, 31, 32, 33, 34, 35, 36, 37, 38, 39, 40, 41, 42, 43, 11, 44, 45, 46, 47, 48, 49, 50, 51, 52, 53, 54, 55, 56, 57, 58, 6, 59, 60, 61, 62, 63, 64, 65, 66, 67, 68, 69, 70, 71, 72, 178, 179, 180, 181, 182, 183, 184, 185, 186, 187, 175, 176, 177, 188, 189, 190] (by decide +kernel) (by decide +kernel)
set_option maxRecDepth 20000 in
theorem gX8_scene_X3_read : GoodIn wsX8_scene (wsV RX8 144 RX3 yX3_read wsX3_read) := goodIn_app (goodIn_of _ (by decide +kernel)) ggX8_scene_X3_read
set_option maxRecDepth 20000 in
theorem ggX8_scene_X6_measure : GoodIn wsX8_scene wsX6_measure := goodIn_r _ [77, 78, 79, 80, 81, 82, 26, 27, 28, 29, 30, 83, 84, 85, 34, 86, 87, 88, 89, 90, 5, 6, 7, 91, 92, 93, 32, 33, 35, 36, 94, 95, 76, 96, 97, 98, 50, 51, 22, 52, 53, 54, 55, 56, 57, 24, 99, 100, 101, 102, 103, 104, 105, 106, 191, 192, 175, 176, 177, 190, 188, 189] (by decide +kernel) (by decide +kernel)
set_option maxRecDepth 20000 in
theorem gX8_scene_X6_measure : GoodIn wsX8_scene (wsV RX8 238 RX6 yX6_measure wsX6_measure) := goodIn_app (goodIn_of _ (by decide +kernel)) ggX8_scene_X6_measure
set_option maxRecDepth 20000 in
theorem ggX8_scene_X7_sizeOf : GoodIn wsX8_scene wsX7_sizeOf := goodIn_r _ [86, 87, 88, 89, 34, 90, 5, 6, 7, 91, 92, 93, 32, 33, 35, 36, 190] (by decide +kernel) (by decide +kernel)
set_option maxRecDepth 20000 in
theorem gX8_scene_X7_sizeOf : GoodIn wsX8_scene (wsV RX8 164 RX7 yX7_sizeOf wsX7_sizeOf) := goodIn_app (goodIn_of _ (by decide +kernel)) ggX8_scene_X7_sizeOf
set_option maxRecDepth 20000 in
theorem ggX8_scene_X3_tally : GoodIn wsX8_scene wsX3_tally := goodIn_r _ [111, 13, 112, 113, 114, 11, 115, 14, 49, 50, 51, 22, 52, 53, 54, 55, 56, 57, 24, 116, 117, 118, 119, 46, 120, 121, 122, 123, 124, 125, 126, 127, 128, 129, 130, 131, 132, 133, 134, 135, 48, 136, 137, 138, 139, 15, 140, 141, 142, 143, 47, 144, 145, 146, 147, 16, 178, 179, 180, 181, 182, 183, 184, 185, 186, 187, 188, 189] (by decide +kernel) (by decide +kernel)
set_option maxRecDepth 20000 in
theorem gX8_scene_X3_tally : GoodIn wsX8_scene (wsV RX8 229 RX3 yX3_tally wsX3_tally) := goodIn_app (goodIn_of _ (by decide +kernel)) ggX8_scene_X3_tally
set_option maxRecDepth 20000 in
theorem ggX8_scene_X3_threadsIn : GoodIn wsX8_scene wsX3_threadsIn := goodIn_r _ [151, 13, 14, 116, 117, 118, 11, 119, 46, 120, 121, 122, 123, 49, 50, 51, 22, 52, 53, 54, 55, 56, 57, 24, 178, 179, 180, 181, 182, 183, 184, 185, 186, 187, 188, 189] (by decide +kernel) (by decide +kernel)
set_option maxRecDepth 20000 in
theorem gX8_scene_X3_threadsIn : GoodIn wsX8_scene (wsV RX8 241 RX3 yX3_threadsIn wsX3_threadsIn) := goodIn_app (goodIn_of _ (by decide +kernel)) ggX8_scene_X3_threadsIn
set_option maxRecDepth 20000 in
theorem ggX8_scene_X7_isHole : GoodIn wsX8_scene wsX7_isHole := goodIn_r _ [155, 156, 84, 85, 34, 86, 87, 88, 89, 90, 5, 6, 7, 91, 92, 93, 32, 33, 35, 36, 157, 158, 159, 160, 190] (by decide +kernel) (by decide +kernel)
set_option maxRecDepth 20000 in
theorem gX8_scene_X7_isHole : GoodIn wsX8_scene (wsV RX8 244 RX7 yX7_isHole wsX7_isHole) := goodIn_app (goodIn_of _ (by decide +kernel)) ggX8_scene_X7_isHole
set_option maxRecDepth 20000 in
theorem ggX8_scene_X6_rises : GoodIn wsX8_scene wsX6_rises := goodIn_r _ [164, 103, 104, 105, 76, 106, 81, 191, 192] (by decide +kernel) (by decide +kernel)
set_option maxRecDepth 20000 in
theorem gX8_scene_X6_rises : GoodIn wsX8_scene (wsV RX8 247 RX6 yX6_rises wsX6_rises) := goodIn_app (goodIn_of _ (by decide +kernel)) ggX8_scene_X6_rises
set_option maxRecDepth 20000 in
theorem ggX8_scene_X6_climbTo : GoodIn wsX8_scene wsX6_climbTo := goodIn_r _ [106, 81, 191, 192] (by decide +kernel) (by decide +kernel)
set_option maxRecDepth 20000 in
theorem gX8_scene_X6_climbTo : GoodIn wsX8_scene (wsV RX8 250 RX6 yX6_climbTo wsX6_climbTo) := goodIn_app (goodIn_of _ (by decide +kernel)) ggX8_scene_X6_climbTo
theorem dX8_scene_0 : decode cX8_scene 0 = .ok (.iload_n 1, 1) := by decide +kernel
theorem dX8_scene_1 : decode cX8_scene 1 = .ok (.invokestatic 161, 3) := by decide +kernel
theorem dX8_scene_4 : decode cX8_scene 4 = .ok (.ifCond .ne 5, 3) := by decide +kernel
theorem dX8_scene_7 : decode cX8_scene 7 = .ok (.iconst (-1), 1) := by decide +kernel
theorem dX8_scene_8 : decode cX8_scene 8 = .ok (.ireturn, 1) := by decide +kernel
theorem dX8_scene_9 : decode cX8_scene 9 = .ok (.aload_n 0, 1) := by decide +kernel
theorem dX8_scene_10 : decode cX8_scene 10 = .ok (.getfield 43, 3) := by decide +kernel
theorem dX8_scene_13 : decode cX8_scene 13 = .ok (.aload_n 0, 1) := by decide +kernel
theorem dX8_scene_14 : decode cX8_scene 14 = .ok (.getfield 10, 3) := by decide +kernel
theorem dX8_scene_17 : decode cX8_scene 17 = .ok (.aload_n 0, 1) := by decide +kernel
theorem dX8_scene_18 : decode cX8_scene 18 = .ok (.getfield 10, 3) := by decide +kernel
theorem dX8_scene_21 : decode cX8_scene 21 = .ok (.getfield 120, 3) := by decide +kernel
theorem dX8_scene_24 : decode cX8_scene 24 = .ok (.invokevirtual 144, 3) := by decide +kernel
theorem dX8_scene_27 : decode cX8_scene 27 = .ok (.aload_n 0, 1) := by decide +kernel
theorem dX8_scene_28 : decode cX8_scene 28 = .ok (.getfield 57, 3) := by decide +kernel
theorem dX8_scene_31 : decode cX8_scene 31 = .ok (.aload_n 0, 1) := by decide +kernel
theorem dX8_scene_32 : decode cX8_scene 32 = .ok (.getfield 10, 3) := by decide +kernel
theorem dX8_scene_35 : decode cX8_scene 35 = .ok (.invokevirtual 238, 3) := by decide +kernel
theorem dX8_scene_38 : decode cX8_scene 38 = .ok (.iload_n 2, 1) := by decide +kernel
theorem dX8_scene_39 : decode cX8_scene 39 = .ok (.tableswitch 131 0 6 #[41, 53, 64, 73, 93, 110, 122], 41) := by decide +kernel
theorem dX8_scene_80 : decode cX8_scene 80 = .ok (.aload_n 0, 1) := by decide +kernel
theorem dX8_scene_81 : decode cX8_scene 81 = .ok (.getfield 10, 3) := by decide +kernel
theorem dX8_scene_84 : decode cX8_scene 84 = .ok (.getfield 120, 3) := by decide +kernel
theorem dX8_scene_87 : decode cX8_scene 87 = .ok (.iload_n 1, 1) := by decide +kernel
theorem dX8_scene_88 : decode cX8_scene 88 = .ok (.invokevirtual 164, 3) := by decide +kernel
theorem dX8_scene_91 : decode cX8_scene 91 = .ok (.ireturn, 1) := by decide +kernel
theorem dX8_scene_92 : decode cX8_scene 92 = .ok (.aload_n 0, 1) := by decide +kernel
theorem dX8_scene_93 : decode cX8_scene 93 = .ok (.getfield 43, 3) := by decide +kernel
theorem dX8_scene_96 : decode cX8_scene 96 = .ok (.iconst 2, 1) := by decide +kernel
theorem dX8_scene_97 : decode cX8_scene 97 = .ok (.iconst (-1), 1) := by decide +kernel
theorem dX8_scene_98 : decode cX8_scene 98 = .ok (.iload_n 1, 1) := by decide +kernel
theorem dX8_scene_99 : decode cX8_scene 99 = .ok (.invokevirtual 229, 3) := by decide +kernel
theorem dX8_scene_102 : decode cX8_scene 102 = .ok (.ireturn, 1) := by decide +kernel
theorem dX8_scene_103 : decode cX8_scene 103 = .ok (.aload_n 0, 1) := by decide +kernel
theorem dX8_scene_104 : decode cX8_scene 104 = .ok (.getfield 43, 3) := by decide +kernel
theorem dX8_scene_107 : decode cX8_scene 107 = .ok (.iload_n 1, 1) := by decide +kernel
theorem dX8_scene_108 : decode cX8_scene 108 = .ok (.invokevirtual 241, 3) := by decide +kernel
theorem dX8_scene_111 : decode cX8_scene 111 = .ok (.ireturn, 1) := by decide +kernel
theorem dX8_scene_112 : decode cX8_scene 112 = .ok (.aload_n 0, 1) := by decide +kernel
theorem dX8_scene_113 : decode cX8_scene 113 = .ok (.getfield 10, 3) := by decide +kernel
theorem dX8_scene_116 : decode cX8_scene 116 = .ok (.getfield 120, 3) := by decide +kernel
theorem dX8_scene_119 : decode cX8_scene 119 = .ok (.iload_n 1, 1) := by decide +kernel
theorem dX8_scene_120 : decode cX8_scene 120 = .ok (.invokevirtual 244, 3) := by decide +kernel
theorem dX8_scene_123 : decode cX8_scene 123 = .ok (.ifCond .eq 7, 3) := by decide +kernel
theorem dX8_scene_126 : decode cX8_scene 126 = .ok (.iconst 1, 1) := by decide +kernel
theorem dX8_scene_127 : decode cX8_scene 127 = .ok (.goto 4, 3) := by decide +kernel
theorem dX8_scene_130 : decode cX8_scene 130 = .ok (.iconst 0, 1) := by decide +kernel
theorem dX8_scene_131 : decode cX8_scene 131 = .ok (.ireturn, 1) := by decide +kernel
theorem dX8_scene_132 : decode cX8_scene 132 = .ok (.aload_n 0, 1) := by decide +kernel
theorem dX8_scene_133 : decode cX8_scene 133 = .ok (.getfield 57, 3) := by decide +kernel
theorem dX8_scene_136 : decode cX8_scene 136 = .ok (.iload_n 1, 1) := by decide +kernel
theorem dX8_scene_137 : decode cX8_scene 137 = .ok (.invokevirtual 247, 3) := by decide +kernel
theorem dX8_scene_140 : decode cX8_scene 140 = .ok (.ifCond .eq 7, 3) := by decide +kernel
theorem dX8_scene_143 : decode cX8_scene 143 = .ok (.iconst 1, 1) := by decide +kernel
theorem dX8_scene_144 : decode cX8_scene 144 = .ok (.goto 4, 3) := by decide +kernel
theorem dX8_scene_147 : decode cX8_scene 147 = .ok (.iconst 0, 1) := by decide +kernel
theorem dX8_scene_148 : decode cX8_scene 148 = .ok (.ireturn, 1) := by decide +kernel
theorem dX8_scene_149 : decode cX8_scene 149 = .ok (.aload_n 0, 1) := by decide +kernel
theorem dX8_scene_150 : decode cX8_scene 150 = .ok (.getfield 43, 3) := by decide +kernel
theorem dX8_scene_153 : decode cX8_scene 153 = .ok (.bipush 12, 2) := by decide +kernel
theorem dX8_scene_155 : decode cX8_scene 155 = .ok (.iconst (-1), 1) := by decide +kernel
theorem dX8_scene_156 : decode cX8_scene 156 = .ok (.iload_n 1, 1) := by decide +kernel
theorem dX8_scene_157 : decode cX8_scene 157 = .ok (.invokevirtual 229, 3) := by decide +kernel
theorem dX8_scene_160 : decode cX8_scene 160 = .ok (.ireturn, 1) := by decide +kernel
theorem dX8_scene_161 : decode cX8_scene 161 = .ok (.aload_n 0, 1) := by decide +kernel
theorem dX8_scene_162 : decode cX8_scene 162 = .ok (.getfield 57, 3) := by decide +kernel
theorem dX8_scene_165 : decode cX8_scene 165 = .ok (.iload_n 1, 1) := by decide +kernel
theorem dX8_scene_166 : decode cX8_scene 166 = .ok (.invokevirtual 250, 3) := by decide +kernel
theorem dX8_scene_169 : decode cX8_scene 169 = .ok (.ireturn, 1) := by decide +kernel
theorem dX8_scene_170 : decode cX8_scene 170 = .ok (.bipush (-2), 2) := by decide +kernel
theorem dX8_scene_172 : decode cX8_scene 172 = .ok (.ireturn, 1) := by decide +kernel
set_option maxRecDepth 20000 in
theorem ggX8_tension_X6_measure : GoodIn wsX8_tension wsX6_measure := goodIn_r _ [7, 8, 9, 10, 11, 12, 13, 14, 15, 16, 17, 18, 19, 20, 21, 22, 23, 24, 25, 26, 27, 28, 29, 30, 31, 32, 33, 34, 35, 36, 37, 38, 6, 39, 40, 41, 42, 43, 44, 45, 46, 47, 48, 49, 50, 51, 52, 53, 54, 55, 56, 57, 58, 59, 70, 71, 72, 73, 74, 75, 76, 77] (by decide +kernel) (by decide +kernel)
set_option maxRecDepth 20000 in
theorem gX8_tension_X6_measure : GoodIn wsX8_tension (wsV RX8 238 RX6 yX6_measure wsX6_measure) := goodIn_app (goodIn_of _ (by decide +kernel)) ggX8_tension_X6_measure
set_option maxRecDepth 20000 in
theorem ggX8_tension_X6_tensionOf : GoodIn wsX8_tension wsX6_tensionOf := goodIn_r _ [55, 9, 10, 70, 71] (by decide +kernel) (by decide +kernel)
set_option maxRecDepth 20000 in
theorem gX8_tension_X6_tensionOf : GoodIn wsX8_tension (wsV RX8 253 RX6 yX6_tensionOf wsX6_tensionOf) := goodIn_app (goodIn_of _ (by decide +kernel)) ggX8_tension_X6_tensionOf
theorem dX8_tension_0 : decode cX8_tension 0 = .ok (.aload_n 0, 1) := by decide +kernel
theorem dX8_tension_1 : decode cX8_tension 1 = .ok (.getfield 57, 3) := by decide +kernel
theorem dX8_tension_4 : decode cX8_tension 4 = .ok (.aload_n 0, 1) := by decide +kernel
theorem dX8_tension_5 : decode cX8_tension 5 = .ok (.getfield 10, 3) := by decide +kernel
theorem dX8_tension_8 : decode cX8_tension 8 = .ok (.invokevirtual 238, 3) := by decide +kernel
theorem dX8_tension_11 : decode cX8_tension 11 = .ok (.aload_n 0, 1) := by decide +kernel
theorem dX8_tension_12 : decode cX8_tension 12 = .ok (.getfield 57, 3) := by decide +kernel
theorem dX8_tension_15 : decode cX8_tension 15 = .ok (.iload_n 1, 1) := by decide +kernel
theorem dX8_tension_16 : decode cX8_tension 16 = .ok (.invokevirtual 253, 3) := by decide +kernel
theorem dX8_tension_19 : decode cX8_tension 19 = .ok (.freturn, 1) := by decide +kernel
set_option maxRecDepth 20000 in
theorem ggX8_broken_X3_read : GoodIn wsX8_broken wsX3_read := goodIn_r _ [7, 8, 9, 10, 11, 12, 13, 14, 15, 16, 17, 18, 19, 20, 21, 22, 23, 24, 25, 26, 27, 28, 29, 30, 31, 32, 33, 34, 35, 36, 37, 38, 6, 39, 40, 41, 42, 43, 44, 45, 46, 47, 48, 49, 50, 51, 52, 53, 54, 55, 56, 57, 58, 59, 60, 61, 62, 63, 64, 65, 66, 67, 68, 97, 98, 99, 100, 101, 102, 103, 104, 105, 106, 94, 95, 96, 107, 108, 109] (by decide +kernel) (by decide +kernel)
set_option maxRecDepth 20000 in
theorem gX8_broken_X3_read : GoodIn wsX8_broken (wsV RX8 144 RX3 yX3_read wsX3_read) := goodIn_app (goodIn_of _ (by decide +kernel)) ggX8_broken_X3_read
set_option maxRecDepth 20000 in
theorem ggX8_broken_X3_breakNumber : GoodIn wsX8_broken wsX3_breakNumber := goodIn_r _ [72, 8, 73, 74, 75, 6, 76, 43, 9, 77, 78, 79, 80, 44, 45, 46, 17, 47, 48, 49, 50, 51, 52, 19, 81, 82, 83, 84, 40, 97, 98, 99, 100, 101, 102, 103, 104, 105, 106, 107, 108] (by decide +kernel) (by decide +kernel)
set_option maxRecDepth 20000 in
theorem gX8_broken_X3_breakNumber : GoodIn wsX8_broken (wsV RX8 257 RX3 yX3_breakNumber wsX3_breakNumber) := goodIn_app (goodIn_of _ (by decide +kernel)) ggX8_broken_X3_breakNumber
theorem dX8_broken_0 : decode cX8_broken 0 = .ok (.iload_n 1, 1) := by decide +kernel
theorem dX8_broken_1 : decode cX8_broken 1 = .ok (.ifCond .ge 6, 3) := by decide +kernel
theorem dX8_broken_4 : decode cX8_broken 4 = .ok (.bipush (-2), 2) := by decide +kernel
theorem dX8_broken_6 : decode cX8_broken 6 = .ok (.ireturn, 1) := by decide +kernel
theorem dX8_broken_7 : decode cX8_broken 7 = .ok (.aload_n 0, 1) := by decide +kernel
theorem dX8_broken_8 : decode cX8_broken 8 = .ok (.getfield 43, 3) := by decide +kernel
theorem dX8_broken_11 : decode cX8_broken 11 = .ok (.aload_n 0, 1) := by decide +kernel
theorem dX8_broken_12 : decode cX8_broken 12 = .ok (.getfield 10, 3) := by decide +kernel
theorem dX8_broken_15 : decode cX8_broken 15 = .ok (.aload_n 0, 1) := by decide +kernel
theorem dX8_broken_16 : decode cX8_broken 16 = .ok (.getfield 10, 3) := by decide +kernel
theorem dX8_broken_19 : decode cX8_broken 19 = .ok (.getfield 120, 3) := by decide +kernel
theorem dX8_broken_22 : decode cX8_broken 22 = .ok (.invokevirtual 144, 3) := by decide +kernel
theorem dX8_broken_25 : decode cX8_broken 25 = .ok (.aload_n 0, 1) := by decide +kernel
theorem dX8_broken_26 : decode cX8_broken 26 = .ok (.getfield 43, 3) := by decide +kernel
theorem dX8_broken_29 : decode cX8_broken 29 = .ok (.iload_n 1, 1) := by decide +kernel
theorem dX8_broken_30 : decode cX8_broken 30 = .ok (.invokevirtual 257, 3) := by decide +kernel
theorem dX8_broken_33 : decode cX8_broken 33 = .ok (.ireturn, 1) := by decide +kernel
set_option maxRecDepth 20000 in
theorem ggX8_would_X8_pinFault : GoodIn wsX8_would wsX8_pinFault := goodIn_r _ [7, 8, 9, 10, 11, 12, 13, 14, 15, 16, 6, 17, 18, 19, 20, 21, 22, 23, 24, 25, 26, 27, 28, 29, 30, 31, 32, 33, 34, 35, 36, 37, 38, 39, 40, 41, 204, 205, 206, 207, 208, 209, 210, 211, 212, 213, 214, 215, 216, 217, 218] (by decide +kernel) (by decide +kernel)
set_option maxRecDepth 20000 in
theorem gX8_would_X8_pinFault : GoodIn wsX8_would (wsV RX8 116 RX8 yX8_pinFault wsX8_pinFault) := goodIn_app (goodIn_of _ (by decide +kernel)) ggX8_would_X8_pinFault
set_option maxRecDepth 20000 in
theorem ggX8_would_X8_readWithout_p0 : GoodIn wsX8_would [.code yX8_readWithout cX8_readWithout 2 none] := goodIn_r _ [45] (by decide +kernel) (by decide +kernel)
set_option maxRecDepth 20000 in
theorem ggX8_would_X8_readWithout_p1 : GoodIn wsX8_would wsX8_readWithout_r1 := goodIn_r _ [1, 8, 2, 46, 47, 48, 49, 21, 50, 33, 51, 52, 53, 54, 55, 56, 57, 58, 38, 39, 40, 41, 29, 30] (by decide +kernel) (by decide +kernel)
set_option maxRecDepth 20000 in
theorem ggX8_would_X8_readWithout_p2 : GoodIn wsX8_would wsX8_readWithout_r2 := goodIn_r _ [31, 32, 27, 6, 28, 59, 60, 61, 62, 63, 64, 65, 66, 67, 68, 69, 70, 71, 72, 73, 74, 75, 76, 12] (by decide +kernel) (by decide +kernel)
set_option maxRecDepth 20000 in
theorem ggX8_would_X8_readWithout_p3 : GoodIn wsX8_would wsX8_readWithout_r3 := goodIn_r _ [77, 14, 78, 79, 80, 81, 82, 83, 84, 85, 10, 11, 13, 86, 87, 88, 89, 90, 91, 92, 93, 94, 95, 96] (by decide +kernel) (by decide +kernel)
set_option maxRecDepth 20000 in
theorem ggX8_would_X8_readWithout_p4 : GoodIn wsX8_would wsX8_readWithout_r4 := goodIn_r _ [97, 98, 99, 100, 101, 102, 103, 104, 105, 106, 107, 108, 109, 110, 111, 112, 113, 114, 115, 116, 117, 118, 119, 120] (by decide +kernel) (by decide +kernel)
set_option maxRecDepth 20000 in
theorem ggX8_would_X8_readWithout_p5 : GoodIn wsX8_would wsX8_readWithout_r5 := goodIn_r _ [121, 122, 123, 124, 125, 126, 127, 128, 129, 130, 131, 132, 133, 134, 135, 136, 137, 138, 139, 140, 141, 142, 143, 144] (by decide +kernel) (by decide +kernel)
set_option maxRecDepth 20000 in
theorem ggX8_would_X8_readWithout_p6 : GoodIn wsX8_would wsX8_readWithout_r6 := goodIn_r _ [145, 146, 147, 148, 149, 150, 151, 152, 153, 154, 155, 156] (by decide +kernel) (by decide +kernel)
set_option maxRecDepth 20000 in
theorem ggX8_would_X8_readWithout_p7 : GoodIn wsX8_would wsX80 := goodIn_r _ [204, 205, 206, 207, 208, 209, 210, 211, 212] (by decide +kernel) (by decide +kernel)
set_option maxRecDepth 20000 in
theorem ggX8_would_X8_readWithout_p8 : GoodIn wsX8_would wsX40 := goodIn_r _ [213, 214, 215] (by decide +kernel) (by decide +kernel)
set_option maxRecDepth 20000 in
theorem ggX8_would_X8_readWithout_p9 : GoodIn wsX8_would wsX70 := goodIn_r _ [218] (by decide +kernel) (by decide +kernel)
set_option maxRecDepth 20000 in
theorem ggX8_would_X8_readWithout_p10 : GoodIn wsX8_would wsX30 := goodIn_r _ [219, 220, 221, 222, 223, 224, 225, 226, 227, 228] (by decide +kernel) (by decide +kernel)
set_option maxRecDepth 20000 in
theorem ggX8_would_X8_readWithout_p11 : GoodIn wsX8_would wsX10 := goodIn_r _ [216, 217] (by decide +kernel) (by decide +kernel)
set_option maxRecDepth 20000 in
theorem ggX8_would_X8_readWithout_p12 : GoodIn wsX8_would wsX50 := goodIn_r _ [229, 230, 231, 232, 233, 234, 235] (by decide +kernel) (by decide +kernel)
set_option maxRecDepth 20000 in
theorem ggX8_would_X8_readWithout : GoodIn wsX8_would wsX8_readWithout := by
  unfold GoodIn wsX8_readWithout
  exact List.forall_mem_cons.mpr ⟨ggX8_would_X8_readWithout_p0 _ (List.mem_singleton.mpr rfl), List.forall_mem_append.mpr ⟨List.forall_mem_append.mpr ⟨List.forall_mem_append.mpr ⟨List.forall_mem_append.mpr ⟨List.forall_mem_append.mpr ⟨List.forall_mem_append.mpr ⟨List.forall_mem_append.mpr ⟨ggX8_would_X8_readWithout_p1, List.forall_mem_append.mpr ⟨ggX8_would_X8_readWithout_p2, List.forall_mem_append.mpr ⟨ggX8_would_X8_readWithout_p3, List.forall_mem_append.mpr ⟨ggX8_would_X8_readWithout_p4, List.forall_mem_append.mpr ⟨ggX8_would_X8_readWithout_p5, ggX8_would_X8_readWithout_p6⟩⟩⟩⟩⟩, ggX8_would_X8_readWithout_p7⟩, ggX8_would_X8_readWithout_p8⟩, ggX8_would_X8_readWithout_p9⟩, ggX8_would_X8_readWithout_p10⟩, ggX8_would_X8_readWithout_p11⟩, ggX8_would_X8_readWithout_p12⟩⟩
set_option maxRecDepth 20000 in
theorem gX8_would_X8_readWithout : GoodIn wsX8_would (wsV RX8 260 RX8 yX8_readWithout wsX8_readWithout) := goodIn_app (goodIn_of _ (by decide +kernel)) ggX8_would_X8_readWithout
set_option maxRecDepth 20000 in
theorem ggX8_would_X8_slot : GoodIn wsX8_would wsX8_slot := goodIn_r _ [28] (by decide +kernel) (by decide +kernel)
set_option maxRecDepth 20000 in
theorem gX8_would_X8_slot : GoodIn wsX8_would (va_wsS RX8 127 yX8_slot wsX8_slot) := goodIn_app (goodIn_of _ (by decide +kernel)) ggX8_would_X8_slot
set_option maxRecDepth 20000 in
theorem ggX8_would_X7_cardsAheadOf : GoodIn wsX8_would wsX7_cardsAheadOf := goodIn_r _ [161, 33, 29, 30, 31, 21, 32, 218] (by decide +kernel) (by decide +kernel)
set_option maxRecDepth 20000 in
theorem gX8_would_X7_cardsAheadOf : GoodIn wsX8_would (wsV RX8 263 RX7 yX7_cardsAheadOf wsX7_cardsAheadOf) := goodIn_app (goodIn_of _ (by decide +kernel)) ggX8_would_X7_cardsAheadOf
set_option maxRecDepth 20000 in
theorem ggX8_would_X3_tally : GoodIn wsX8_would wsX3_tally := goodIn_r _ [165, 68, 166, 134, 135, 66, 136, 69, 94, 95, 96, 12, 97, 98, 99, 100, 101, 102, 14, 167, 168, 169, 170, 91, 145, 146, 147, 148, 171, 172, 173, 174, 175, 138, 139, 140, 176, 177, 178, 179, 93, 180, 181, 182, 183, 70, 184, 185, 186, 187, 92, 188, 189, 190, 191, 71, 219, 220, 221, 222, 223, 224, 225, 226, 227, 228, 216, 217] (by decide +kernel) (by decide +kernel)
set_option maxRecDepth 20000 in
theorem gX8_would_X3_tally : GoodIn wsX8_would (wsV RX8 229 RX3 yX3_tally wsX3_tally) := goodIn_app (goodIn_of _ (by decide +kernel)) ggX8_would_X3_tally
set_option maxRecDepth 20000 in
theorem ggX8_would_X8_breaksMadeBy : GoodIn wsX8_would wsX8_breaksMadeBy := goodIn_r _ [195, 8, 46, 118, 95, 96, 12, 97, 98, 99, 100, 101, 102, 14, 196, 197, 198, 122, 199, 124, 125, 127, 200, 201, 202, 203, 204, 205, 206, 207, 208, 209, 210, 211, 212, 213, 214, 215, 216, 217, 229, 230, 231, 232, 233, 234, 235] (by decide +kernel) (by decide +kernel)
set_option maxRecDepth 20000 in
theorem gX8_would_X8_breaksMadeBy : GoodIn wsX8_would (wsV RX8 266 RX8 yX8_breaksMadeBy wsX8_breaksMadeBy) := goodIn_app (goodIn_of _ (by decide +kernel)) ggX8_would_X8_breaksMadeBy
theorem dX8_would_0 : decode cX8_would 0 = .ok (.aload_n 0, 1) := by decide +kernel
theorem dX8_would_1 : decode cX8_would 1 = .ok (.iload_n 1, 1) := by decide +kernel
theorem dX8_would_2 : decode cX8_would 2 = .ok (.iload_n 2, 1) := by decide +kernel
theorem dX8_would_3 : decode cX8_would 3 = .ok (.iload_n 3, 1) := by decide +kernel
theorem dX8_would_4 : decode cX8_would 4 = .ok (.invokevirtual 116, 3) := by decide +kernel
theorem dX8_would_7 : decode cX8_would 7 = .ok (.istore 4, 2) := by decide +kernel
theorem dX8_would_9 : decode cX8_would 9 = .ok (.iload 4, 2) := by decide +kernel
theorem dX8_would_11 : decode cX8_would 11 = .ok (.ifCond .eq 6, 3) := by decide +kernel
theorem dX8_would_14 : decode cX8_would 14 = .ok (.iload 4, 2) := by decide +kernel
theorem dX8_would_16 : decode cX8_would 16 = .ok (.ireturn, 1) := by decide +kernel
theorem dX8_would_17 : decode cX8_would 17 = .ok (.aload_n 0, 1) := by decide +kernel
theorem dX8_would_18 : decode cX8_would 18 = .ok (.iload_n 1, 1) := by decide +kernel
theorem dX8_would_19 : decode cX8_would 19 = .ok (.invokevirtual 260, 3) := by decide +kernel
theorem dX8_would_22 : decode cX8_would 22 = .ok (.aload_n 0, 1) := by decide +kernel
theorem dX8_would_23 : decode cX8_would 23 = .ok (.getfield 36, 3) := by decide +kernel
theorem dX8_would_26 : decode cX8_would 26 = .ok (.iload_n 2, 1) := by decide +kernel
theorem dX8_would_27 : decode cX8_would 27 = .ok (.iload_n 3, 1) := by decide +kernel
theorem dX8_would_28 : decode cX8_would 28 = .ok (.invokestatic 127, 3) := by decide +kernel
theorem dX8_would_31 : decode cX8_would 31 = .ok (.invokevirtual 263, 3) := by decide +kernel
theorem dX8_would_34 : decode cX8_would 34 = .ok (.istore 5, 2) := by decide +kernel
theorem dX8_would_36 : decode cX8_would 36 = .ok (.aload_n 0, 1) := by decide +kernel
theorem dX8_would_37 : decode cX8_would 37 = .ok (.getfield 43, 3) := by decide +kernel
theorem dX8_would_40 : decode cX8_would 40 = .ok (.bipush 12, 2) := by decide +kernel
theorem dX8_would_42 : decode cX8_would 42 = .ok (.iconst (-1), 1) := by decide +kernel
theorem dX8_would_43 : decode cX8_would 43 = .ok (.iconst (-1), 1) := by decide +kernel
theorem dX8_would_44 : decode cX8_would 44 = .ok (.invokevirtual 229, 3) := by decide +kernel
theorem dX8_would_47 : decode cX8_would 47 = .ok (.aload_n 0, 1) := by decide +kernel
theorem dX8_would_48 : decode cX8_would 48 = .ok (.iload_n 1, 1) := by decide +kernel
theorem dX8_would_49 : decode cX8_would 49 = .ok (.iload 5, 2) := by decide +kernel
theorem dX8_would_51 : decode cX8_would 51 = .ok (.invokevirtual 266, 3) := by decide +kernel
theorem dX8_would_54 : decode cX8_would 54 = .ok (.iadd, 1) := by decide +kernel
theorem dX8_would_55 : decode cX8_would 55 = .ok (.ireturn, 1) := by decide +kernel
set_option maxRecDepth 20000 in
theorem ggX8_best_X1_has : GoodIn wsX8_best wsX1_has := goodIn_r _ [7, 8, 177, 178] (by decide +kernel) (by decide +kernel)
set_option maxRecDepth 20000 in
theorem gX8_best_X1_has : GoodIn wsX8_best (wsV RX8 105 RX1 yX1_has wsX1_has) := goodIn_app (goodIn_of _ (by decide +kernel)) ggX8_best_X1_has
set_option maxRecDepth 20000 in
theorem ggX8_best_X8_readWithout_p0 : GoodIn wsX8_best [.code yX8_readWithout cX8_readWithout 2 none] := goodIn_r _ [13] (by decide +kernel) (by decide +kernel)
set_option maxRecDepth 20000 in
theorem ggX8_best_X8_readWithout_p1 : GoodIn wsX8_best wsX8_readWithout_r1 := goodIn_r _ [2, 1, 14, 15, 16, 17, 18, 19, 20, 21, 22, 23, 24, 25, 26, 27, 28, 29, 30, 31, 32, 33, 34, 35] (by decide +kernel) (by decide +kernel)
set_option maxRecDepth 20000 in
theorem ggX8_best_X8_readWithout_p2 : GoodIn wsX8_best wsX8_readWithout_r2 := goodIn_r _ [36, 37, 38, 12, 39, 40, 41, 42, 43, 44, 45, 46, 47, 48, 49, 50, 51, 52, 53, 54, 55, 56, 57, 6] (by decide +kernel) (by decide +kernel)
set_option maxRecDepth 20000 in
theorem ggX8_best_X8_readWithout_p3 : GoodIn wsX8_best wsX8_readWithout_r3 := goodIn_r _ [58, 8, 59, 60, 61, 62, 63, 64, 65, 66, 4, 5, 7, 67, 68, 69, 70, 71, 72, 73, 74, 75, 76, 77] (by decide +kernel) (by decide +kernel)
set_option maxRecDepth 20000 in
theorem ggX8_best_X8_readWithout_p4 : GoodIn wsX8_best wsX8_readWithout_r4 := goodIn_r _ [78, 79, 80, 81, 82, 83, 84, 85, 86, 87, 88, 89, 90, 91, 92, 93, 94, 95, 96, 97, 98, 99, 100, 101] (by decide +kernel) (by decide +kernel)
set_option maxRecDepth 20000 in
theorem ggX8_best_X8_readWithout_p5 : GoodIn wsX8_best wsX8_readWithout_r5 := goodIn_r _ [102, 103, 104, 105, 106, 107, 108, 109, 110, 111, 112, 113, 114, 115, 116, 117, 118, 119, 120, 121, 122, 123, 124, 125] (by decide +kernel) (by decide +kernel)
set_option maxRecDepth 20000 in
theorem ggX8_best_X8_readWithout_p6 : GoodIn wsX8_best wsX8_readWithout_r6 := goodIn_r _ [126, 127, 128, 129, 130, 131, 132, 133, 134, 135, 136, 137] (by decide +kernel) (by decide +kernel)
set_option maxRecDepth 20000 in
theorem ggX8_best_X8_readWithout_p7 : GoodIn wsX8_best wsX80 := goodIn_r _ [165, 166, 167, 168, 169, 170, 171, 172, 173] (by decide +kernel) (by decide +kernel)
set_option maxRecDepth 20000 in
theorem ggX8_best_X8_readWithout_p8 : GoodIn wsX8_best wsX40 := goodIn_r _ [174, 175, 176] (by decide +kernel) (by decide +kernel)
set_option maxRecDepth 20000 in
theorem ggX8_best_X8_readWithout_p9 : GoodIn wsX8_best wsX70 := goodIn_r _ [179] (by decide +kernel) (by decide +kernel)
set_option maxRecDepth 20000 in
theorem ggX8_best_X8_readWithout_p10 : GoodIn wsX8_best wsX30 := goodIn_r _ [180, 181, 182, 183, 184, 185, 186, 187, 188, 189] (by decide +kernel) (by decide +kernel)
set_option maxRecDepth 20000 in
theorem ggX8_best_X8_readWithout_p11 : GoodIn wsX8_best wsX10 := goodIn_r _ [177, 178] (by decide +kernel) (by decide +kernel)
set_option maxRecDepth 20000 in
theorem ggX8_best_X8_readWithout_p12 : GoodIn wsX8_best wsX50 := goodIn_r _ [190, 191, 192, 193, 194, 195, 196] (by decide +kernel) (by decide +kernel)
set_option maxRecDepth 20000 in
theorem ggX8_best_X8_readWithout : GoodIn wsX8_best wsX8_readWithout := by
  unfold GoodIn wsX8_readWithout
  exact List.forall_mem_cons.mpr ⟨ggX8_best_X8_readWithout_p0 _ (List.mem_singleton.mpr rfl), List.forall_mem_append.mpr ⟨List.forall_mem_append.mpr ⟨List.forall_mem_append.mpr ⟨List.forall_mem_append.mpr ⟨List.forall_mem_append.mpr ⟨List.forall_mem_append.mpr ⟨List.forall_mem_append.mpr ⟨ggX8_best_X8_readWithout_p1, List.forall_mem_append.mpr ⟨ggX8_best_X8_readWithout_p2, List.forall_mem_append.mpr ⟨ggX8_best_X8_readWithout_p3, List.forall_mem_append.mpr ⟨ggX8_best_X8_readWithout_p4, List.forall_mem_append.mpr ⟨ggX8_best_X8_readWithout_p5, ggX8_best_X8_readWithout_p6⟩⟩⟩⟩⟩, ggX8_best_X8_readWithout_p7⟩, ggX8_best_X8_readWithout_p8⟩, ggX8_best_X8_readWithout_p9⟩, ggX8_best_X8_readWithout_p10⟩, ggX8_best_X8_readWithout_p11⟩, ggX8_best_X8_readWithout_p12⟩⟩
set_option maxRecDepth 20000 in
theorem gX8_best_X8_readWithout : GoodIn wsX8_best (wsV RX8 260 RX8 yX8_readWithout wsX8_readWithout) := goodIn_app (goodIn_of _ (by decide +kernel)) ggX8_best_X8_readWithout
set_option maxRecDepth 20000 in
theorem ggX8_best_X7_sizeOf : GoodIn wsX8_best wsX7_sizeOf := goodIn_r _ [141, 142, 143, 144, 19, 145, 146, 12, 147, 38, 39, 34, 35, 36, 37, 21, 179] (by decide +kernel) (by decide +kernel)
set_option maxRecDepth 20000 in
theorem gX8_best_X7_sizeOf : GoodIn wsX8_best (wsV RX8 164 RX7 yX7_sizeOf wsX7_sizeOf) := goodIn_app (goodIn_of _ (by decide +kernel)) ggX8_best_X7_sizeOf
set_option maxRecDepth 20000 in
theorem ggX8_best_X8_slot : GoodIn wsX8_best wsX8_slot := goodIn_r _ [39] (by decide +kernel) (by decide +kernel)
set_option maxRecDepth 20000 in
theorem gX8_best_X8_slot : GoodIn wsX8_best (va_wsS RX8 127 yX8_slot wsX8_slot) := goodIn_app (goodIn_of _ (by decide +kernel)) ggX8_best_X8_slot
set_option maxRecDepth 20000 in
theorem ggX8_best_X7_cardsAheadOf : GoodIn wsX8_best wsX7_cardsAheadOf := goodIn_r _ [152, 21, 34, 35, 36, 19, 37, 179] (by decide +kernel) (by decide +kernel)
set_option maxRecDepth 20000 in
theorem gX8_best_X7_cardsAheadOf : GoodIn wsX8_best (wsV RX8 263 RX7 yX7_cardsAheadOf wsX7_cardsAheadOf) := goodIn_app (goodIn_of _ (by decide +kernel)) ggX8_best_X7_cardsAheadOf
set_option maxRecDepth 20000 in
theorem ggX8_best_X8_breaksMadeBy : GoodIn wsX8_best wsX8_breaksMadeBy := goodIn_r _ [156, 1, 15, 99, 76, 77, 6, 78, 79, 80, 81, 82, 83, 8, 157, 158, 159, 103, 160, 105, 106, 108, 161, 162, 163, 164, 165, 166, 167, 168, 169, 170, 171, 172, 173, 174, 175, 176, 177, 178, 190, 191, 192, 193, 194, 195, 196] (by decide +kernel) (by decide +kernel)
set_option maxRecDepth 20000 in
theorem gX8_best_X8_breaksMadeBy : GoodIn wsX8_best (wsV RX8 266 RX8 yX8_breaksMadeBy wsX8_breaksMadeBy) := goodIn_app (goodIn_of _ (by decide +kernel)) ggX8_best_X8_breaksMadeBy
theorem dX8_best_0 : decode cX8_best 0 = .ok (.aload_n 0, 1) := by decide +kernel
theorem dX8_best_1 : decode cX8_best 1 = .ok (.getfield 10, 3) := by decide +kernel
theorem dX8_best_4 : decode cX8_best 4 = .ok (.getfield 73, 3) := by decide +kernel
theorem dX8_best_7 : decode cX8_best 7 = .ok (.iload_n 1, 1) := by decide +kernel
theorem dX8_best_8 : decode cX8_best 8 = .ok (.invokevirtual 105, 3) := by decide +kernel
theorem dX8_best_11 : decode cX8_best 11 = .ok (.ifCond .ne 5, 3) := by decide +kernel
theorem dX8_best_14 : decode cX8_best 14 = .ok (.iconst (-1), 1) := by decide +kernel
theorem dX8_best_15 : decode cX8_best 15 = .ok (.ireturn, 1) := by decide +kernel
theorem dX8_best_16 : decode cX8_best 16 = .ok (.aload_n 0, 1) := by decide +kernel
theorem dX8_best_17 : decode cX8_best 17 = .ok (.iload_n 1, 1) := by decide +kernel
theorem dX8_best_18 : decode cX8_best 18 = .ok (.invokevirtual 260, 3) := by decide +kernel
theorem dX8_best_21 : decode cX8_best 21 = .ok (.bipush (-5), 2) := by decide +kernel
theorem dX8_best_23 : decode cX8_best 23 = .ok (.istore_n 2, 1) := by decide +kernel
theorem dX8_best_24 : decode cX8_best 24 = .ok (.iconst 0, 1) := by decide +kernel
theorem dX8_best_25 : decode cX8_best 25 = .ok (.istore_n 3, 1) := by decide +kernel
theorem dX8_best_26 : decode cX8_best 26 = .ok (.iconst 0, 1) := by decide +kernel
theorem dX8_best_27 : decode cX8_best 27 = .ok (.istore 4, 2) := by decide +kernel
theorem dX8_best_29 : decode cX8_best 29 = .ok (.iload 4, 2) := by decide +kernel
theorem dX8_best_31 : decode cX8_best 31 = .ok (.bipush 16, 2) := by decide +kernel
theorem dX8_best_33 : decode cX8_best 33 = .ok (.if_icmp .ge 101, 3) := by decide +kernel
theorem dX8_best_36 : decode cX8_best 36 = .ok (.aload_n 0, 1) := by decide +kernel
theorem dX8_best_37 : decode cX8_best 37 = .ok (.getfield 36, 3) := by decide +kernel
theorem dX8_best_40 : decode cX8_best 40 = .ok (.iload 4, 2) := by decide +kernel
theorem dX8_best_42 : decode cX8_best 42 = .ok (.invokevirtual 164, 3) := by decide +kernel
theorem dX8_best_45 : decode cX8_best 45 = .ok (.istore 5, 2) := by decide +kernel
theorem dX8_best_47 : decode cX8_best 47 = .ok (.aload_n 0, 1) := by decide +kernel
theorem dX8_best_48 : decode cX8_best 48 = .ok (.getfield 36, 3) := by decide +kernel
theorem dX8_best_51 : decode cX8_best 51 = .ok (.iload 4, 2) := by decide +kernel
theorem dX8_best_53 : decode cX8_best 53 = .ok (.iconst 0, 1) := by decide +kernel
theorem dX8_best_54 : decode cX8_best 54 = .ok (.invokestatic 127, 3) := by decide +kernel
theorem dX8_best_57 : decode cX8_best 57 = .ok (.invokevirtual 263, 3) := by decide +kernel
theorem dX8_best_60 : decode cX8_best 60 = .ok (.istore 6, 2) := by decide +kernel
theorem dX8_best_62 : decode cX8_best 62 = .ok (.iconst 0, 1) := by decide +kernel
theorem dX8_best_63 : decode cX8_best 63 = .ok (.istore 7, 2) := by decide +kernel
theorem dX8_best_65 : decode cX8_best 65 = .ok (.iload 7, 2) := by decide +kernel
theorem dX8_best_67 : decode cX8_best 67 = .ok (.iload 5, 2) := by decide +kernel
theorem dX8_best_69 : decode cX8_best 69 = .ok (.if_icmp .gt 59, 3) := by decide +kernel
theorem dX8_best_72 : decode cX8_best 72 = .ok (.iload 7, 2) := by decide +kernel
theorem dX8_best_74 : decode cX8_best 74 = .ok (.bipush 6, 2) := by decide +kernel
theorem dX8_best_76 : decode cX8_best 76 = .ok (.if_icmp .ge 52, 3) := by decide +kernel
theorem dX8_best_79 : decode cX8_best 79 = .ok (.iload 5, 2) := by decide +kernel
theorem dX8_best_81 : decode cX8_best 81 = .ok (.bipush 6, 2) := by decide +kernel
theorem dX8_best_83 : decode cX8_best 83 = .ok (.if_icmp .ge 45, 3) := by decide +kernel
theorem dX8_best_86 : decode cX8_best 86 = .ok (.aload_n 0, 1) := by decide +kernel
theorem dX8_best_87 : decode cX8_best 87 = .ok (.iload_n 1, 1) := by decide +kernel
theorem dX8_best_88 : decode cX8_best 88 = .ok (.iload 6, 2) := by decide +kernel
theorem dX8_best_90 : decode cX8_best 90 = .ok (.iload 7, 2) := by decide +kernel
theorem dX8_best_92 : decode cX8_best 92 = .ok (.iadd, 1) := by decide +kernel
theorem dX8_best_93 : decode cX8_best 93 = .ok (.invokevirtual 266, 3) := by decide +kernel
theorem dX8_best_96 : decode cX8_best 96 = .ok (.istore 8, 2) := by decide +kernel
theorem dX8_best_98 : decode cX8_best 98 = .ok (.iload_n 2, 1) := by decide +kernel
theorem dX8_best_99 : decode cX8_best 99 = .ok (.bipush (-5), 2) := by decide +kernel
theorem dX8_best_101 : decode cX8_best 101 = .ok (.if_icmp .eq 9, 3) := by decide +kernel
theorem dX8_best_104 : decode cX8_best 104 = .ok (.iload 8, 2) := by decide +kernel
theorem dX8_best_106 : decode cX8_best 106 = .ok (.iload_n 3, 1) := by decide +kernel
theorem dX8_best_107 : decode cX8_best 107 = .ok (.if_icmp .ge 15, 3) := by decide +kernel
theorem dX8_best_110 : decode cX8_best 110 = .ok (.bipush 10, 2) := by decide +kernel
theorem dX8_best_112 : decode cX8_best 112 = .ok (.iload 4, 2) := by decide +kernel
theorem dX8_best_114 : decode cX8_best 114 = .ok (.imul, 1) := by decide +kernel
theorem dX8_best_115 : decode cX8_best 115 = .ok (.iload 7, 2) := by decide +kernel
theorem dX8_best_117 : decode cX8_best 117 = .ok (.iadd, 1) := by decide +kernel
theorem dX8_best_118 : decode cX8_best 118 = .ok (.istore_n 2, 1) := by decide +kernel
theorem dX8_best_119 : decode cX8_best 119 = .ok (.iload 8, 2) := by decide +kernel
theorem dX8_best_121 : decode cX8_best 121 = .ok (.istore_n 3, 1) := by decide +kernel
theorem dX8_best_122 : decode cX8_best 122 = .ok (.iinc 7 1, 3) := by decide +kernel
theorem dX8_best_125 : decode cX8_best 125 = .ok (.goto (-60), 3) := by decide +kernel
theorem dX8_best_128 : decode cX8_best 128 = .ok (.iinc 4 1, 3) := by decide +kernel
theorem dX8_best_131 : decode cX8_best 131 = .ok (.goto (-102), 3) := by decide +kernel
theorem dX8_best_134 : decode cX8_best 134 = .ok (.iload_n 2, 1) := by decide +kernel
theorem dX8_best_135 : decode cX8_best 135 = .ok (.ireturn, 1) := by decide +kernel
set_option maxRecDepth 20000 in
theorem ggX8_count_X4_setting : GoodIn wsX8_count wsX4_setting := goodIn_r _ [10, 11, 211, 212, 213] (by decide +kernel) (by decide +kernel)
set_option maxRecDepth 20000 in
theorem gX8_count_X4_setting : GoodIn wsX8_count (wsV RX8 183 RX4 yX4_setting wsX4_setting) := goodIn_app (goodIn_of _ (by decide +kernel)) ggX8_count_X4_setting
set_option maxRecDepth 20000 in
theorem ggX8_count_X3_read : GoodIn wsX8_count wsX3_read := goodIn_r _ [16, 17, 18, 19, 20, 21, 22, 23, 24, 25, 26, 27, 28, 29, 7, 8, 9, 10, 11, 30, 31, 32, 33, 34, 35, 36, 37, 38, 39, 40, 41, 42, 15, 43, 44, 45, 46, 47, 48, 49, 50, 51, 52, 53, 54, 55, 56, 57, 58, 59, 60, 61, 62, 63, 64, 65, 66, 67, 68, 69, 70, 71, 72, 214, 215, 216, 217, 218, 219, 220, 221, 222, 223, 211, 212, 213, 224, 225, 226] (by decide +kernel) (by decide +kernel)
set_option maxRecDepth 20000 in
theorem gX8_count_X3_read : GoodIn wsX8_count (wsV RX8 144 RX3 yX3_read wsX3_read) := goodIn_app (goodIn_of _ (by decide +kernel)) ggX8_count_X3_read
set_option maxRecDepth 20000 in
theorem ggX8_count_X1_size : GoodIn wsX8_count wsX1_size := goodIn_r _ [76, 28, 224, 225] (by decide +kernel) (by decide +kernel)
set_option maxRecDepth 20000 in
theorem gX8_count_X1_size : GoodIn wsX8_count (wsV RX8 90 RX1 yX1_size wsX1_size) := goodIn_app (goodIn_of _ (by decide +kernel)) ggX8_count_X1_size
set_option maxRecDepth 20000 in
theorem ggX8_count_X7_cards : GoodIn wsX8_count wsX7_cards := goodIn_r _ [80, 35, 81, 82, 83, 33, 84, 85, 31, 32, 34, 226] (by decide +kernel) (by decide +kernel)
set_option maxRecDepth 20000 in
theorem gX8_count_X7_cards : GoodIn wsX8_count (wsV RX8 206 RX7 yX7_cards wsX7_cards) := goodIn_app (goodIn_of _ (by decide +kernel)) ggX8_count_X7_cards
set_option maxRecDepth 20000 in
theorem ggX8_count_X7_scenesWithCards : GoodIn wsX8_count wsX7_scenesWithCards := goodIn_r _ [89, 90, 91, 92, 33, 93, 94, 95, 96, 97, 98, 58, 99, 100, 101, 85, 31, 32, 34, 35, 226] (by decide +kernel) (by decide +kernel)
set_option maxRecDepth 20000 in
theorem gX8_count_X7_scenesWithCards : GoodIn wsX8_count (wsV RX8 170 RX7 yX7_scenesWithCards wsX7_scenesWithCards) := goodIn_app (goodIn_of _ (by decide +kernel)) ggX8_count_X7_scenesWithCards
set_option maxRecDepth 20000 in
theorem ggX8_count_X3_tally : GoodIn wsX8_count wsX3_tally := goodIn_r _ [105, 17, 106, 107, 108, 15, 109, 18, 48, 49, 50, 26, 51, 52, 53, 54, 55, 56, 28, 110, 111, 112, 113, 45, 114, 115, 116, 117, 118, 119, 120, 121, 122, 123, 124, 125, 126, 127, 128, 129, 47, 130, 131, 132, 133, 19, 134, 135, 136, 137, 46, 138, 139, 140, 141, 20, 214, 215, 216, 217, 218, 219, 220, 221, 222, 223, 224, 225] (by decide +kernel) (by decide +kernel)
set_option maxRecDepth 20000 in
theorem gX8_count_X3_tally : GoodIn wsX8_count (wsV RX8 229 RX3 yX3_tally wsX3_tally) := goodIn_app (goodIn_of _ (by decide +kernel)) ggX8_count_X3_tally
set_option maxRecDepth 20000 in
theorem ggX8_count_X7_holes : GoodIn wsX8_count wsX7_holes := goodIn_r _ [145, 146, 147, 148, 33, 149, 90, 91, 92, 93, 94, 95, 96, 97, 98, 58, 99, 100, 101, 85, 31, 32, 34, 35, 150, 151, 152, 153, 226] (by decide +kernel) (by decide +kernel)
set_option maxRecDepth 20000 in
theorem gX8_count_X7_holes : GoodIn wsX8_count (wsV RX8 269 RX7 yX7_holes wsX7_holes) := goodIn_app (goodIn_of _ (by decide +kernel)) ggX8_count_X7_holes
set_option maxRecDepth 20000 in
theorem ggX8_count_X6_measure : GoodIn wsX8_count wsX6_measure := goodIn_r _ [158, 159, 160, 161, 162, 163, 7, 8, 9, 10, 11, 164, 91, 92, 33, 93, 94, 95, 96, 97, 98, 58, 99, 100, 101, 85, 31, 32, 34, 35, 165, 166, 157, 167, 168, 169, 49, 50, 26, 51, 52, 53, 54, 55, 56, 28, 170, 171, 172, 173, 174, 175, 176, 177, 227, 228, 211, 212, 213, 226, 224, 225] (by decide +kernel) (by decide +kernel)
set_option maxRecDepth 20000 in
theorem gX8_count_X6_measure : GoodIn wsX8_count (wsV RX8 238 RX6 yX6_measure wsX6_measure) := goodIn_app (goodIn_of _ (by decide +kernel)) ggX8_count_X6_measure
set_option maxRecDepth 20000 in
theorem ggX8_count_X6_longestClimb : GoodIn wsX8_count wsX6_longestClimb := goodIn_r _ [181, 182, 183, 184, 185, 174, 175, 176, 157, 177, 162, 227, 228] (by decide +kernel) (by decide +kernel)
set_option maxRecDepth 20000 in
theorem gX8_count_X6_longestClimb : GoodIn wsX8_count (wsV RX8 272 RX6 yX6_longestClimb wsX6_longestClimb) := goodIn_app (goodIn_of _ (by decide +kernel)) ggX8_count_X6_longestClimb
set_option maxRecDepth 20000 in
theorem ggX8_count_X8_threadsThatStand : GoodIn wsX8_count wsX8_threadsThatStand := goodIn_r _ [189, 2, 102, 103, 104, 15, 105, 17, 106, 107, 108, 109, 18, 48, 49, 50, 26, 51, 52, 53, 54, 55, 56, 28, 110, 111, 112, 113, 45, 114, 115, 116, 117, 118, 119, 120, 121, 122, 123, 124, 125, 126, 127, 128, 129, 47, 130, 131, 132, 133, 19, 134, 135, 136, 137, 46, 138, 139, 140, 141, 20, 202, 203, 204, 205, 206, 207, 208, 209, 210, 214, 215, 216, 217, 218, 219, 220, 221, 222, 223, 224, 225] (by decide +kernel) (by decide +kernel)
set_option maxRecDepth 20000 in
theorem gX8_count_X8_threadsThatStand : GoodIn wsX8_count (wsV RX8 275 RX8 yX8_threadsThatStand wsX8_threadsThatStand) := goodIn_app (goodIn_of _ (by decide +kernel)) ggX8_count_X8_threadsThatStand
set_option maxRecDepth 20000 in
theorem ggX8_count_X2_size : GoodIn wsX8_count wsX2_size := goodIn_r _ [194, 195, 229, 230, 231] (by decide +kernel) (by decide +kernel)
set_option maxRecDepth 20000 in
theorem gX8_count_X2_size : GoodIn wsX8_count (wsV RX8 202 RX2 yX2_size wsX2_size) := goodIn_app (goodIn_of _ (by decide +kernel)) ggX8_count_X2_size
set_option maxRecDepth 20000 in
theorem ggX8_count_X0_length : GoodIn wsX8_count wsX0_length := goodIn_r _ [200, 201, 232, 233, 234, 235, 236] (by decide +kernel) (by decide +kernel)
set_option maxRecDepth 20000 in
theorem gX8_count_X0_length : GoodIn wsX8_count (wsV RX8 192 RX0 yX0_length wsX0_length) := goodIn_app (goodIn_of _ (by decide +kernel)) ggX8_count_X0_length
theorem dX8_count_0 : decode cX8_count 0 = .ok (.iload_n 1, 1) := by decide +kernel
theorem dX8_count_1 : decode cX8_count 1 = .ok (.bipush 10, 2) := by decide +kernel
theorem dX8_count_3 : decode cX8_count 3 = .ok (.if_icmp .lt 21, 3) := by decide +kernel
theorem dX8_count_6 : decode cX8_count 6 = .ok (.iload_n 1, 1) := by decide +kernel
theorem dX8_count_7 : decode cX8_count 7 = .ok (.bipush 13, 2) := by decide +kernel
theorem dX8_count_9 : decode cX8_count 9 = .ok (.if_icmp .ge 15, 3) := by decide +kernel
theorem dX8_count_12 : decode cX8_count 12 = .ok (.aload_n 0, 1) := by decide +kernel
theorem dX8_count_13 : decode cX8_count 13 = .ok (.getfield 10, 3) := by decide +kernel
theorem dX8_count_16 : decode cX8_count 16 = .ok (.iload_n 1, 1) := by decide +kernel
theorem dX8_count_17 : decode cX8_count 17 = .ok (.bipush 10, 2) := by decide +kernel
theorem dX8_count_19 : decode cX8_count 19 = .ok (.isub, 1) := by decide +kernel
theorem dX8_count_20 : decode cX8_count 20 = .ok (.invokevirtual 183, 3) := by decide +kernel
theorem dX8_count_23 : decode cX8_count 23 = .ok (.ireturn, 1) := by decide +kernel
theorem dX8_count_24 : decode cX8_count 24 = .ok (.aload_n 0, 1) := by decide +kernel
theorem dX8_count_25 : decode cX8_count 25 = .ok (.getfield 43, 3) := by decide +kernel
theorem dX8_count_28 : decode cX8_count 28 = .ok (.aload_n 0, 1) := by decide +kernel
theorem dX8_count_29 : decode cX8_count 29 = .ok (.getfield 10, 3) := by decide +kernel
theorem dX8_count_32 : decode cX8_count 32 = .ok (.aload_n 0, 1) := by decide +kernel
theorem dX8_count_33 : decode cX8_count 33 = .ok (.getfield 10, 3) := by decide +kernel
theorem dX8_count_36 : decode cX8_count 36 = .ok (.getfield 120, 3) := by decide +kernel
theorem dX8_count_39 : decode cX8_count 39 = .ok (.invokevirtual 144, 3) := by decide +kernel
theorem dX8_count_42 : decode cX8_count 42 = .ok (.iload_n 1, 1) := by decide +kernel
theorem dX8_count_43 : decode cX8_count 43 = .ok (.tableswitch 204 0 14 #[73, 84, 95, 106, 118, 130, 142, 153, 164, 183, 204, 204, 204, 188, 196], 73) := by decide +kernel
theorem dX8_count_116 : decode cX8_count 116 = .ok (.aload_n 0, 1) := by decide +kernel
theorem dX8_count_117 : decode cX8_count 117 = .ok (.getfield 10, 3) := by decide +kernel
theorem dX8_count_120 : decode cX8_count 120 = .ok (.getfield 73, 3) := by decide +kernel
theorem dX8_count_123 : decode cX8_count 123 = .ok (.invokevirtual 90, 3) := by decide +kernel
theorem dX8_count_126 : decode cX8_count 126 = .ok (.ireturn, 1) := by decide +kernel
theorem dX8_count_127 : decode cX8_count 127 = .ok (.aload_n 0, 1) := by decide +kernel
theorem dX8_count_128 : decode cX8_count 128 = .ok (.getfield 10, 3) := by decide +kernel
theorem dX8_count_131 : decode cX8_count 131 = .ok (.getfield 120, 3) := by decide +kernel
theorem dX8_count_134 : decode cX8_count 134 = .ok (.invokevirtual 206, 3) := by decide +kernel
theorem dX8_count_137 : decode cX8_count 137 = .ok (.ireturn, 1) := by decide +kernel
theorem dX8_count_138 : decode cX8_count 138 = .ok (.aload_n 0, 1) := by decide +kernel
theorem dX8_count_139 : decode cX8_count 139 = .ok (.getfield 10, 3) := by decide +kernel
theorem dX8_count_142 : decode cX8_count 142 = .ok (.getfield 120, 3) := by decide +kernel
theorem dX8_count_145 : decode cX8_count 145 = .ok (.invokevirtual 170, 3) := by decide +kernel
theorem dX8_count_148 : decode cX8_count 148 = .ok (.ireturn, 1) := by decide +kernel
theorem dX8_count_149 : decode cX8_count 149 = .ok (.aload_n 0, 1) := by decide +kernel
theorem dX8_count_150 : decode cX8_count 150 = .ok (.getfield 43, 3) := by decide +kernel
theorem dX8_count_153 : decode cX8_count 153 = .ok (.bipush 12, 2) := by decide +kernel
theorem dX8_count_155 : decode cX8_count 155 = .ok (.iconst (-1), 1) := by decide +kernel
theorem dX8_count_156 : decode cX8_count 156 = .ok (.iconst (-1), 1) := by decide +kernel
theorem dX8_count_157 : decode cX8_count 157 = .ok (.invokevirtual 229, 3) := by decide +kernel
theorem dX8_count_160 : decode cX8_count 160 = .ok (.ireturn, 1) := by decide +kernel
theorem dX8_count_161 : decode cX8_count 161 = .ok (.aload_n 0, 1) := by decide +kernel
theorem dX8_count_162 : decode cX8_count 162 = .ok (.getfield 43, 3) := by decide +kernel
theorem dX8_count_165 : decode cX8_count 165 = .ok (.bipush 13, 2) := by decide +kernel
theorem dX8_count_167 : decode cX8_count 167 = .ok (.iconst (-1), 1) := by decide +kernel
theorem dX8_count_168 : decode cX8_count 168 = .ok (.iconst (-1), 1) := by decide +kernel
theorem dX8_count_169 : decode cX8_count 169 = .ok (.invokevirtual 229, 3) := by decide +kernel
theorem dX8_count_172 : decode cX8_count 172 = .ok (.ireturn, 1) := by decide +kernel
theorem dX8_count_173 : decode cX8_count 173 = .ok (.aload_n 0, 1) := by decide +kernel
theorem dX8_count_174 : decode cX8_count 174 = .ok (.getfield 43, 3) := by decide +kernel
theorem dX8_count_177 : decode cX8_count 177 = .ok (.bipush 14, 2) := by decide +kernel
theorem dX8_count_179 : decode cX8_count 179 = .ok (.iconst (-1), 1) := by decide +kernel
theorem dX8_count_180 : decode cX8_count 180 = .ok (.iconst (-1), 1) := by decide +kernel
theorem dX8_count_181 : decode cX8_count 181 = .ok (.invokevirtual 229, 3) := by decide +kernel
theorem dX8_count_184 : decode cX8_count 184 = .ok (.ireturn, 1) := by decide +kernel
theorem dX8_count_185 : decode cX8_count 185 = .ok (.aload_n 0, 1) := by decide +kernel
theorem dX8_count_186 : decode cX8_count 186 = .ok (.getfield 10, 3) := by decide +kernel
theorem dX8_count_189 : decode cX8_count 189 = .ok (.getfield 120, 3) := by decide +kernel
theorem dX8_count_192 : decode cX8_count 192 = .ok (.invokevirtual 269, 3) := by decide +kernel
theorem dX8_count_195 : decode cX8_count 195 = .ok (.ireturn, 1) := by decide +kernel
theorem dX8_count_196 : decode cX8_count 196 = .ok (.aload_n 0, 1) := by decide +kernel
theorem dX8_count_197 : decode cX8_count 197 = .ok (.getfield 43, 3) := by decide +kernel
theorem dX8_count_200 : decode cX8_count 200 = .ok (.iconst 2, 1) := by decide +kernel
theorem dX8_count_201 : decode cX8_count 201 = .ok (.iconst (-1), 1) := by decide +kernel
theorem dX8_count_202 : decode cX8_count 202 = .ok (.iconst (-1), 1) := by decide +kernel
theorem dX8_count_203 : decode cX8_count 203 = .ok (.invokevirtual 229, 3) := by decide +kernel
theorem dX8_count_206 : decode cX8_count 206 = .ok (.ireturn, 1) := by decide +kernel
theorem dX8_count_207 : decode cX8_count 207 = .ok (.aload_n 0, 1) := by decide +kernel
theorem dX8_count_208 : decode cX8_count 208 = .ok (.getfield 57, 3) := by decide +kernel
theorem dX8_count_211 : decode cX8_count 211 = .ok (.aload_n 0, 1) := by decide +kernel
theorem dX8_count_212 : decode cX8_count 212 = .ok (.getfield 10, 3) := by decide +kernel
theorem dX8_count_215 : decode cX8_count 215 = .ok (.invokevirtual 238, 3) := by decide +kernel
theorem dX8_count_218 : decode cX8_count 218 = .ok (.aload_n 0, 1) := by decide +kernel
theorem dX8_count_219 : decode cX8_count 219 = .ok (.getfield 57, 3) := by decide +kernel
theorem dX8_count_222 : decode cX8_count 222 = .ok (.invokevirtual 272, 3) := by decide +kernel
theorem dX8_count_225 : decode cX8_count 225 = .ok (.ireturn, 1) := by decide +kernel
theorem dX8_count_226 : decode cX8_count 226 = .ok (.aload_n 0, 1) := by decide +kernel
theorem dX8_count_227 : decode cX8_count 227 = .ok (.invokevirtual 275, 3) := by decide +kernel
theorem dX8_count_230 : decode cX8_count 230 = .ok (.ireturn, 1) := by decide +kernel
theorem dX8_count_231 : decode cX8_count 231 = .ok (.aload_n 0, 1) := by decide +kernel
theorem dX8_count_232 : decode cX8_count 232 = .ok (.getfield 22, 3) := by decide +kernel
theorem dX8_count_235 : decode cX8_count 235 = .ok (.invokevirtual 202, 3) := by decide +kernel
theorem dX8_count_238 : decode cX8_count 238 = .ok (.ireturn, 1) := by decide +kernel
theorem dX8_count_239 : decode cX8_count 239 = .ok (.aload_n 0, 1) := by decide +kernel
theorem dX8_count_240 : decode cX8_count 240 = .ok (.getfield 29, 3) := by decide +kernel
theorem dX8_count_243 : decode cX8_count 243 = .ok (.invokevirtual 192, 3) := by decide +kernel
theorem dX8_count_246 : decode cX8_count 246 = .ok (.ireturn, 1) := by decide +kernel
theorem dX8_count_247 : decode cX8_count 247 = .ok (.bipush (-2), 2) := by decide +kernel
theorem dX8_count_249 : decode cX8_count 249 = .ok (.ireturn, 1) := by decide +kernel
set_option maxRecDepth 20000 in
theorem ggX8_spanBits_X6_measure : GoodIn wsX8_spanBits wsX6_measure := goodIn_r _ [7, 8, 9, 10, 11, 12, 13, 14, 15, 16, 17, 18, 19, 20, 21, 22, 23, 24, 25, 26, 27, 28, 29, 30, 31, 32, 33, 34, 35, 36, 37, 38, 6, 39, 40, 41, 42, 43, 44, 45, 46, 47, 48, 49, 50, 51, 52, 53, 54, 55, 56, 57, 58, 59, 77, 78, 79, 80, 81, 82, 83, 84] (by decide +kernel) (by decide +kernel)
set_option maxRecDepth 20000 in
theorem gX8_spanBits_X6_measure : GoodIn wsX8_spanBits (wsV RX8 238 RX6 yX6_measure wsX6_measure) := goodIn_app (goodIn_of _ (by decide +kernel)) ggX8_spanBits_X6_measure
set_option maxRecDepth 20000 in
theorem ggX8_spanBits_X6_span : GoodIn wsX8_spanBits wsX6_span := goodIn_r _ [63, 56, 57, 58, 6, 59, 11, 52, 53, 54, 55, 9, 10, 77, 78] (by decide +kernel) (by decide +kernel)
set_option maxRecDepth 20000 in
theorem gX8_spanBits_X6_span : GoodIn wsX8_spanBits (wsV RX8 278 RX6 yX6_span wsX6_span) := goodIn_app (goodIn_of _ (by decide +kernel)) ggX8_spanBits_X6_span
set_option maxRecDepth 20000 in
theorem ggX8_spanBits_X8_bitsOf : GoodIn wsX8_spanBits wsX8_bitsOf := goodIn_r _ [66, 67] (by decide +kernel) (by decide +kernel)
set_option maxRecDepth 20000 in
theorem gX8_spanBits_X8_bitsOf : GoodIn wsX8_spanBits (va_wsS RX8 282 yX8_bitsOf wsX8_bitsOf) := goodIn_app (goodIn_of _ (by decide +kernel)) ggX8_spanBits_X8_bitsOf
theorem dX8_spanBits_0 : decode cX8_spanBits 0 = .ok (.aload_n 0, 1) := by decide +kernel
theorem dX8_spanBits_1 : decode cX8_spanBits 1 = .ok (.getfield 57, 3) := by decide +kernel
theorem dX8_spanBits_4 : decode cX8_spanBits 4 = .ok (.aload_n 0, 1) := by decide +kernel
theorem dX8_spanBits_5 : decode cX8_spanBits 5 = .ok (.getfield 10, 3) := by decide +kernel
theorem dX8_spanBits_8 : decode cX8_spanBits 8 = .ok (.invokevirtual 238, 3) := by decide +kernel
theorem dX8_spanBits_11 : decode cX8_spanBits 11 = .ok (.aload_n 0, 1) := by decide +kernel
theorem dX8_spanBits_12 : decode cX8_spanBits 12 = .ok (.getfield 57, 3) := by decide +kernel
theorem dX8_spanBits_15 : decode cX8_spanBits 15 = .ok (.invokevirtual 278, 3) := by decide +kernel
theorem dX8_spanBits_18 : decode cX8_spanBits 18 = .ok (.invokestatic 282, 3) := by decide +kernel
theorem dX8_spanBits_21 : decode cX8_spanBits 21 = .ok (.ireturn, 1) := by decide +kernel
theorem dX8_isThread_0 : decode cX8_isThread 0 = .ok (.iload_n 0, 1) := by decide +kernel
theorem dX8_isThread_1 : decode cX8_isThread 1 = .ok (.ifCond .lt 13, 3) := by decide +kernel
theorem dX8_isThread_4 : decode cX8_isThread 4 = .ok (.iload_n 0, 1) := by decide +kernel
theorem dX8_isThread_5 : decode cX8_isThread 5 = .ok (.bipush 6, 2) := by decide +kernel
theorem dX8_isThread_7 : decode cX8_isThread 7 = .ok (.if_icmp .ge 7, 3) := by decide +kernel
theorem dX8_isThread_10 : decode cX8_isThread 10 = .ok (.iconst 1, 1) := by decide +kernel
theorem dX8_isThread_11 : decode cX8_isThread 11 = .ok (.goto 4, 3) := by decide +kernel
theorem dX8_isThread_14 : decode cX8_isThread 14 = .ok (.iconst 0, 1) := by decide +kernel
theorem dX8_isThread_15 : decode cX8_isThread 15 = .ok (.ireturn, 1) := by decide +kernel
theorem dX8_isScene_0 : decode cX8_isScene 0 = .ok (.iload_n 0, 1) := by decide +kernel
theorem dX8_isScene_1 : decode cX8_isScene 1 = .ok (.ifCond .lt 13, 3) := by decide +kernel
theorem dX8_isScene_4 : decode cX8_isScene 4 = .ok (.iload_n 0, 1) := by decide +kernel
theorem dX8_isScene_5 : decode cX8_isScene 5 = .ok (.bipush 16, 2) := by decide +kernel
theorem dX8_isScene_7 : decode cX8_isScene 7 = .ok (.if_icmp .ge 7, 3) := by decide +kernel
theorem dX8_isScene_10 : decode cX8_isScene 10 = .ok (.iconst 1, 1) := by decide +kernel
theorem dX8_isScene_11 : decode cX8_isScene 11 = .ok (.goto 4, 3) := by decide +kernel
theorem dX8_isScene_14 : decode cX8_isScene 14 = .ok (.iconst 0, 1) := by decide +kernel
theorem dX8_isScene_15 : decode cX8_isScene 15 = .ok (.ireturn, 1) := by decide +kernel
theorem dX8_mayBe_0 : decode cX8_mayBe 0 = .ok (.iload_n 0, 1) := by decide +kernel
theorem dX8_mayBe_1 : decode cX8_mayBe 1 = .ok (.ifCond .lt 30, 3) := by decide +kernel
theorem dX8_mayBe_4 : decode cX8_mayBe 4 = .ok (.iload_n 0, 1) := by decide +kernel
theorem dX8_mayBe_5 : decode cX8_mayBe 5 = .ok (.iconst 5, 1) := by decide +kernel
theorem dX8_mayBe_6 : decode cX8_mayBe 6 = .ok (.if_icmp .ge 25, 3) := by decide +kernel
theorem dX8_mayBe_9 : decode cX8_mayBe 9 = .ok (.iload_n 1, 1) := by decide +kernel
theorem dX8_mayBe_10 : decode cX8_mayBe 10 = .ok (.getstatic 286, 3) := by decide +kernel
theorem dX8_mayBe_13 : decode cX8_mayBe 13 = .ok (.iload_n 0, 1) := by decide +kernel
theorem dX8_mayBe_14 : decode cX8_mayBe 14 = .ok (.iaload, 1) := by decide +kernel
theorem dX8_mayBe_15 : decode cX8_mayBe 15 = .ok (.if_icmp .lt 16, 3) := by decide +kernel
theorem dX8_mayBe_18 : decode cX8_mayBe 18 = .ok (.iload_n 1, 1) := by decide +kernel
theorem dX8_mayBe_19 : decode cX8_mayBe 19 = .ok (.getstatic 289, 3) := by decide +kernel
theorem dX8_mayBe_22 : decode cX8_mayBe 22 = .ok (.iload_n 0, 1) := by decide +kernel
theorem dX8_mayBe_23 : decode cX8_mayBe 23 = .ok (.iaload, 1) := by decide +kernel
theorem dX8_mayBe_24 : decode cX8_mayBe 24 = .ok (.if_icmp .gt 7, 3) := by decide +kernel
theorem dX8_mayBe_27 : decode cX8_mayBe 27 = .ok (.iconst 1, 1) := by decide +kernel
theorem dX8_mayBe_28 : decode cX8_mayBe 28 = .ok (.goto 4, 3) := by decide +kernel
theorem dX8_mayBe_31 : decode cX8_mayBe 31 = .ok (.iconst 0, 1) := by decide +kernel
theorem dX8_mayBe_32 : decode cX8_mayBe 32 = .ok (.ireturn, 1) := by decide +kernel
theorem dX8_slot_0 : decode cX8_slot 0 = .ok (.iload_n 0, 1) := by decide +kernel
theorem dX8_slot_1 : decode cX8_slot 1 = .ok (.bipush 6, 2) := by decide +kernel
theorem dX8_slot_3 : decode cX8_slot 3 = .ok (.imul, 1) := by decide +kernel
theorem dX8_slot_4 : decode cX8_slot 4 = .ok (.iload_n 1, 1) := by decide +kernel
theorem dX8_slot_5 : decode cX8_slot 5 = .ok (.iadd, 1) := by decide +kernel
theorem dX8_slot_6 : decode cX8_slot 6 = .ok (.ireturn, 1) := by decide +kernel
set_option maxRecDepth 20000 in
theorem ggX8_pinFault_X1_has : GoodIn wsX8_pinFault wsX1_has := goodIn_r _ [6, 7, 48, 49] (by decide +kernel) (by decide +kernel)
set_option maxRecDepth 20000 in
theorem gX8_pinFault_X1_has : GoodIn wsX8_pinFault (wsV RX8 105 RX1 yX1_has wsX1_has) := goodIn_app (goodIn_of _ (by decide +kernel)) ggX8_pinFault_X1_has
set_option maxRecDepth 20000 in
theorem ggX8_pinFault_X8_isScene : GoodIn wsX8_pinFault wsX8_isScene := goodIn_r _ [11] (by decide +kernel) (by decide +kernel)
set_option maxRecDepth 20000 in
theorem gX8_pinFault_X8_isScene : GoodIn wsX8_pinFault (va_wsS RX8 161 yX8_isScene wsX8_isScene) := goodIn_app (goodIn_of _ (by decide +kernel)) ggX8_pinFault_X8_isScene
set_option maxRecDepth 20000 in
theorem ggX8_pinFault_X7_sizeOf : GoodIn wsX8_pinFault wsX7_sizeOf := goodIn_r _ [16, 17, 18, 19, 15, 20, 9, 10, 11, 21, 22, 23, 24, 25, 26, 27, 50] (by decide +kernel) (by decide +kernel)
set_option maxRecDepth 20000 in
theorem gX8_pinFault_X7_sizeOf : GoodIn wsX8_pinFault (wsV RX8 164 RX7 yX7_sizeOf wsX7_sizeOf) := goodIn_app (goodIn_of _ (by decide +kernel)) ggX8_pinFault_X7_sizeOf
set_option maxRecDepth 20000 in
theorem ggX8_pinFault_X7_isIn : GoodIn wsX8_pinFault wsX7_isIn := goodIn_r _ [31, 32, 33, 34, 15, 35, 27, 23, 24, 25, 26, 50] (by decide +kernel) (by decide +kernel)
set_option maxRecDepth 20000 in
theorem gX8_pinFault_X7_isIn : GoodIn wsX8_pinFault (wsV RX8 292 RX7 yX7_isIn wsX7_isIn) := goodIn_app (goodIn_of _ (by decide +kernel)) ggX8_pinFault_X7_isIn
theorem dX8_pinFault_0 : decode cX8_pinFault 0 = .ok (.aload_n 0, 1) := by decide +kernel
theorem dX8_pinFault_1 : decode cX8_pinFault 1 = .ok (.getfield 10, 3) := by decide +kernel
theorem dX8_pinFault_4 : decode cX8_pinFault 4 = .ok (.getfield 73, 3) := by decide +kernel
theorem dX8_pinFault_7 : decode cX8_pinFault 7 = .ok (.iload_n 1, 1) := by decide +kernel
theorem dX8_pinFault_8 : decode cX8_pinFault 8 = .ok (.invokevirtual 105, 3) := by decide +kernel
theorem dX8_pinFault_11 : decode cX8_pinFault 11 = .ok (.ifCond .eq 10, 3) := by decide +kernel
theorem dX8_pinFault_14 : decode cX8_pinFault 14 = .ok (.iload_n 2, 1) := by decide +kernel
theorem dX8_pinFault_15 : decode cX8_pinFault 15 = .ok (.invokestatic 161, 3) := by decide +kernel
theorem dX8_pinFault_18 : decode cX8_pinFault 18 = .ok (.ifCond .ne 5, 3) := by decide +kernel
theorem dX8_pinFault_21 : decode cX8_pinFault 21 = .ok (.iconst (-1), 1) := by decide +kernel
theorem dX8_pinFault_22 : decode cX8_pinFault 22 = .ok (.ireturn, 1) := by decide +kernel
theorem dX8_pinFault_23 : decode cX8_pinFault 23 = .ok (.aload_n 0, 1) := by decide +kernel
theorem dX8_pinFault_24 : decode cX8_pinFault 24 = .ok (.getfield 10, 3) := by decide +kernel
theorem dX8_pinFault_27 : decode cX8_pinFault 27 = .ok (.getfield 120, 3) := by decide +kernel
theorem dX8_pinFault_30 : decode cX8_pinFault 30 = .ok (.iload_n 2, 1) := by decide +kernel
theorem dX8_pinFault_31 : decode cX8_pinFault 31 = .ok (.invokevirtual 164, 3) := by decide +kernel
theorem dX8_pinFault_34 : decode cX8_pinFault 34 = .ok (.istore 4, 2) := by decide +kernel
theorem dX8_pinFault_36 : decode cX8_pinFault 36 = .ok (.aload_n 0, 1) := by decide +kernel
theorem dX8_pinFault_37 : decode cX8_pinFault 37 = .ok (.getfield 10, 3) := by decide +kernel
theorem dX8_pinFault_40 : decode cX8_pinFault 40 = .ok (.getfield 120, 3) := by decide +kernel
theorem dX8_pinFault_43 : decode cX8_pinFault 43 = .ok (.iload_n 1, 1) := by decide +kernel
theorem dX8_pinFault_44 : decode cX8_pinFault 44 = .ok (.iload_n 2, 1) := by decide +kernel
theorem dX8_pinFault_45 : decode cX8_pinFault 45 = .ok (.invokevirtual 292, 3) := by decide +kernel
theorem dX8_pinFault_48 : decode cX8_pinFault 48 = .ok (.ifCond .eq 6, 3) := by decide +kernel
theorem dX8_pinFault_51 : decode cX8_pinFault 51 = .ok (.iinc 4 (-1), 3) := by decide +kernel
theorem dX8_pinFault_54 : decode cX8_pinFault 54 = .ok (.iload 4, 2) := by decide +kernel
theorem dX8_pinFault_56 : decode cX8_pinFault 56 = .ok (.bipush 6, 2) := by decide +kernel
theorem dX8_pinFault_58 : decode cX8_pinFault 58 = .ok (.if_icmp .lt 6, 3) := by decide +kernel
theorem dX8_pinFault_61 : decode cX8_pinFault 61 = .ok (.bipush (-3), 2) := by decide +kernel
theorem dX8_pinFault_63 : decode cX8_pinFault 63 = .ok (.ireturn, 1) := by decide +kernel
theorem dX8_pinFault_64 : decode cX8_pinFault 64 = .ok (.iload_n 3, 1) := by decide +kernel
theorem dX8_pinFault_65 : decode cX8_pinFault 65 = .ok (.ifCond .lt 9, 3) := by decide +kernel
theorem dX8_pinFault_68 : decode cX8_pinFault 68 = .ok (.iload_n 3, 1) := by decide +kernel
theorem dX8_pinFault_69 : decode cX8_pinFault 69 = .ok (.iload 4, 2) := by decide +kernel
theorem dX8_pinFault_71 : decode cX8_pinFault 71 = .ok (.if_icmp .le 8, 3) := by decide +kernel
theorem dX8_pinFault_74 : decode cX8_pinFault 74 = .ok (.bipush (-2), 2) := by decide +kernel
theorem dX8_pinFault_76 : decode cX8_pinFault 76 = .ok (.goto 4, 3) := by decide +kernel
theorem dX8_pinFault_79 : decode cX8_pinFault 79 = .ok (.iconst 0, 1) := by decide +kernel
theorem dX8_pinFault_80 : decode cX8_pinFault 80 = .ok (.ireturn, 1) := by decide +kernel
set_option maxRecDepth 20000 in
theorem ggX8_breaksNow_X3_read : GoodIn wsX8_breaksNow wsX3_read := goodIn_r _ [7, 8, 9, 10, 11, 12, 13, 14, 15, 16, 17, 18, 19, 20, 21, 22, 23, 24, 25, 26, 27, 28, 29, 30, 31, 32, 33, 34, 35, 36, 37, 38, 6, 39, 40, 41, 42, 43, 44, 45, 46, 47, 48, 49, 50, 51, 52, 53, 54, 55, 56, 57, 58, 59, 60, 61, 62, 63, 64, 65, 66, 67, 68, 121, 122, 123, 124, 125, 126, 127, 128, 129, 130, 118, 119, 120, 131, 132, 133] (by decide +kernel) (by decide +kernel)
set_option maxRecDepth 20000 in
theorem gX8_breaksNow_X3_read : GoodIn wsX8_breaksNow (wsV RX8 144 RX3 yX3_read wsX3_read) := goodIn_app (goodIn_of _ (by decide +kernel)) ggX8_breaksNow_X3_read
set_option maxRecDepth 20000 in
theorem ggX8_breaksNow_X3_tally : GoodIn wsX8_breaksNow wsX3_tally := goodIn_r _ [72, 8, 73, 74, 75, 6, 76, 9, 44, 45, 46, 17, 47, 48, 49, 50, 51, 52, 19, 77, 78, 79, 80, 41, 81, 82, 83, 84, 85, 86, 87, 88, 89, 90, 91, 92, 93, 94, 95, 96, 43, 97, 98, 99, 100, 10, 101, 102, 103, 104, 42, 105, 106, 107, 108, 11, 121, 122, 123, 124, 125, 126, 127, 128, 129, 130, 131, 132] (by decide +kernel) (by decide +kernel)
set_option maxRecDepth 20000 in
theorem gX8_breaksNow_X3_tally : GoodIn wsX8_breaksNow (wsV RX8 229 RX3 yX3_tally wsX3_tally) := goodIn_app (goodIn_of _ (by decide +kernel)) ggX8_breaksNow_X3_tally
theorem dX8_breaksNow_0 : decode cX8_breaksNow 0 = .ok (.aload_n 0, 1) := by decide +kernel
theorem dX8_breaksNow_1 : decode cX8_breaksNow 1 = .ok (.getfield 43, 3) := by decide +kernel
theorem dX8_breaksNow_4 : decode cX8_breaksNow 4 = .ok (.aload_n 0, 1) := by decide +kernel
theorem dX8_breaksNow_5 : decode cX8_breaksNow 5 = .ok (.getfield 10, 3) := by decide +kernel
theorem dX8_breaksNow_8 : decode cX8_breaksNow 8 = .ok (.aload_n 0, 1) := by decide +kernel
theorem dX8_breaksNow_9 : decode cX8_breaksNow 9 = .ok (.getfield 10, 3) := by decide +kernel
theorem dX8_breaksNow_12 : decode cX8_breaksNow 12 = .ok (.getfield 120, 3) := by decide +kernel
theorem dX8_breaksNow_15 : decode cX8_breaksNow 15 = .ok (.invokevirtual 144, 3) := by decide +kernel
theorem dX8_breaksNow_18 : decode cX8_breaksNow 18 = .ok (.aload_n 0, 1) := by decide +kernel
theorem dX8_breaksNow_19 : decode cX8_breaksNow 19 = .ok (.getfield 43, 3) := by decide +kernel
theorem dX8_breaksNow_22 : decode cX8_breaksNow 22 = .ok (.bipush 12, 2) := by decide +kernel
theorem dX8_breaksNow_24 : decode cX8_breaksNow 24 = .ok (.iload_n 1, 1) := by decide +kernel
theorem dX8_breaksNow_25 : decode cX8_breaksNow 25 = .ok (.iconst (-1), 1) := by decide +kernel
theorem dX8_breaksNow_26 : decode cX8_breaksNow 26 = .ok (.invokevirtual 229, 3) := by decide +kernel
theorem dX8_breaksNow_29 : decode cX8_breaksNow 29 = .ok (.ireturn, 1) := by decide +kernel
set_option maxRecDepth 20000 in
theorem ggX8_threadsThatStand_X3_tally : GoodIn wsX8_threadsThatStand wsX3_tally := goodIn_r _ [6, 7, 8, 9, 10, 5, 11, 12, 13, 14, 15, 16, 17, 18, 19, 20, 21, 22, 23, 24, 25, 26, 27, 28, 29, 30, 31, 32, 33, 34, 35, 36, 37, 38, 39, 40, 41, 42, 43, 44, 45, 46, 47, 48, 49, 50, 51, 52, 53, 54, 55, 56, 57, 58, 59, 60, 70, 71, 72, 73, 74, 75, 76, 77, 78, 79, 80, 81] (by decide +kernel) (by decide +kernel)
set_option maxRecDepth 20000 in
theorem gX8_threadsThatStand_X3_tally : GoodIn wsX8_threadsThatStand (wsV RX8 229 RX3 yX3_tally wsX3_tally) := goodIn_app (goodIn_of _ (by decide +kernel)) ggX8_threadsThatStand_X3_tally
theorem dX8_threadsThatStand_0 : decode cX8_threadsThatStand 0 = .ok (.iconst 0, 1) := by decide +kernel
theorem dX8_threadsThatStand_1 : decode cX8_threadsThatStand 1 = .ok (.istore_n 1, 1) := by decide +kernel
theorem dX8_threadsThatStand_2 : decode cX8_threadsThatStand 2 = .ok (.iconst 0, 1) := by decide +kernel
theorem dX8_threadsThatStand_3 : decode cX8_threadsThatStand 3 = .ok (.istore_n 2, 1) := by decide +kernel
theorem dX8_threadsThatStand_4 : decode cX8_threadsThatStand 4 = .ok (.iload_n 2, 1) := by decide +kernel
theorem dX8_threadsThatStand_5 : decode cX8_threadsThatStand 5 = .ok (.bipush 6, 2) := by decide +kernel
theorem dX8_threadsThatStand_7 : decode cX8_threadsThatStand 7 = .ok (.if_icmp .ge 26, 3) := by decide +kernel
theorem dX8_threadsThatStand_10 : decode cX8_threadsThatStand 10 = .ok (.aload_n 0, 1) := by decide +kernel
theorem dX8_threadsThatStand_11 : decode cX8_threadsThatStand 11 = .ok (.getfield 43, 3) := by decide +kernel
theorem dX8_threadsThatStand_14 : decode cX8_threadsThatStand 14 = .ok (.bipush 12, 2) := by decide +kernel
theorem dX8_threadsThatStand_16 : decode cX8_threadsThatStand 16 = .ok (.iload_n 2, 1) := by decide +kernel
theorem dX8_threadsThatStand_17 : decode cX8_threadsThatStand 17 = .ok (.iconst (-1), 1) := by decide +kernel
theorem dX8_threadsThatStand_18 : decode cX8_threadsThatStand 18 = .ok (.invokevirtual 229, 3) := by decide +kernel
theorem dX8_threadsThatStand_21 : decode cX8_threadsThatStand 21 = .ok (.ifCond .ne 6, 3) := by decide +kernel
theorem dX8_threadsThatStand_24 : decode cX8_threadsThatStand 24 = .ok (.iinc 1 1, 3) := by decide +kernel
theorem dX8_threadsThatStand_27 : decode cX8_threadsThatStand 27 = .ok (.iinc 2 1, 3) := by decide +kernel
theorem dX8_threadsThatStand_30 : decode cX8_threadsThatStand 30 = .ok (.goto (-26), 3) := by decide +kernel
theorem dX8_threadsThatStand_33 : decode cX8_threadsThatStand 33 = .ok (.iload_n 1, 1) := by decide +kernel
theorem dX8_threadsThatStand_34 : decode cX8_threadsThatStand 34 = .ok (.ireturn, 1) := by decide +kernel
set_option maxRecDepth 20000 in
theorem ggX8_readWithout_X7_copyFrom : GoodIn wsX8_readWithout wsX7_copyFrom := goodIn_r _ [9, 10, 11, 12, 13, 14, 145] (by decide +kernel) (by decide +kernel)
set_option maxRecDepth 20000 in
theorem gX8_readWithout_X7_copyFrom : GoodIn wsX8_readWithout (wsV RX8 295 RX7 yX7_copyFrom wsX7_copyFrom) := goodIn_app (goodIn_of _ (by decide +kernel)) ggX8_readWithout_X7_copyFrom
set_option maxRecDepth 20000 in
theorem ggX8_readWithout_X7_takeOff : GoodIn wsX8_readWithout wsX7_takeOff := goodIn_r _ [18, 19, 20, 21, 8, 22, 10, 23, 24, 25, 26, 27, 28, 29, 30, 31, 32, 33, 145] (by decide +kernel) (by decide +kernel)
set_option maxRecDepth 20000 in
theorem gX8_readWithout_X7_takeOff : GoodIn wsX8_readWithout (wsV RX8 130 RX7 yX7_takeOff wsX7_takeOff) := goodIn_app (goodIn_of _ (by decide +kernel)) ggX8_readWithout_X7_takeOff
set_option maxRecDepth 20000 in
theorem ggX8_readWithout_X3_read : GoodIn wsX8_readWithout wsX3_read := goodIn_r _ [38, 39, 40, 41, 42, 43, 44, 45, 46, 47, 48, 49, 50, 51, 52, 53, 54, 55, 56, 57, 24, 25, 8, 26, 10, 58, 59, 60, 61, 62, 63, 64, 37, 65, 66, 67, 68, 69, 70, 71, 72, 73, 74, 75, 76, 77, 78, 79, 28, 80, 81, 82, 83, 84, 85, 86, 87, 88, 89, 90, 91, 92, 93, 146, 147, 148, 149, 150, 151, 152, 153, 154, 155, 142, 143, 144, 156, 157, 145] (by decide +kernel) (by decide +kernel)
set_option maxRecDepth 20000 in
theorem gX8_readWithout_X3_read : GoodIn wsX8_readWithout (wsV RX8 144 RX3 yX3_read wsX3_read) := goodIn_app (goodIn_of _ (by decide +kernel)) ggX8_readWithout_X3_read
set_option maxRecDepth 20000 in
theorem ggX8_readWithout_X1_number : GoodIn wsX8_readWithout wsX1_number := goodIn_r _ [73, 74, 75, 76, 77, 48, 78, 50, 156, 157] (by decide +kernel) (by decide +kernel)
set_option maxRecDepth 20000 in
theorem gX8_readWithout_X1_number : GoodIn wsX8_readWithout (wsV RX8 108 RX1 yX1_number wsX1_number) := goodIn_app (goodIn_of _ (by decide +kernel)) ggX8_readWithout_X1_number
set_option maxRecDepth 20000 in
theorem ggX8_readWithout_X5_gather : GoodIn wsX8_readWithout wsX5_gather := goodIn_r _ [99, 100, 101, 102, 103, 104, 105, 106, 107, 37, 108, 39, 109, 110, 111, 112, 40, 70, 71, 72, 48, 73, 74, 75, 76, 77, 78, 50, 113, 114, 115, 116, 117, 118, 119, 120, 66, 121, 122, 123, 124, 125, 126, 127, 128, 129, 130, 131, 132, 67, 158, 159, 160, 161, 162, 163, 164, 146, 147, 148, 149, 150, 151, 152, 153, 154, 155, 156, 157] (by decide +kernel) (by decide +kernel)
set_option maxRecDepth 20000 in
theorem gX8_readWithout_X5_gather : GoodIn wsX8_readWithout (wsV RX8 147 RX5 yX5_gather wsX5_gather) := goodIn_app (goodIn_of _ (by decide +kernel)) ggX8_readWithout_X5_gather
theorem dX8_readWithout_0 : decode cX8_readWithout 0 = .ok (.aload_n 0, 1) := by decide +kernel
theorem dX8_readWithout_1 : decode cX8_readWithout 1 = .ok (.getfield 36, 3) := by decide +kernel
theorem dX8_readWithout_4 : decode cX8_readWithout 4 = .ok (.aload_n 0, 1) := by decide +kernel
theorem dX8_readWithout_5 : decode cX8_readWithout 5 = .ok (.getfield 10, 3) := by decide +kernel
theorem dX8_readWithout_8 : decode cX8_readWithout 8 = .ok (.getfield 120, 3) := by decide +kernel
theorem dX8_readWithout_11 : decode cX8_readWithout 11 = .ok (.invokevirtual 295, 3) := by decide +kernel
theorem dX8_readWithout_14 : decode cX8_readWithout 14 = .ok (.aload_n 0, 1) := by decide +kernel
theorem dX8_readWithout_15 : decode cX8_readWithout 15 = .ok (.getfield 36, 3) := by decide +kernel
theorem dX8_readWithout_18 : decode cX8_readWithout 18 = .ok (.iload_n 1, 1) := by decide +kernel
theorem dX8_readWithout_19 : decode cX8_readWithout 19 = .ok (.invokevirtual 130, 3) := by decide +kernel
theorem dX8_readWithout_22 : decode cX8_readWithout 22 = .ok (.aload_n 0, 1) := by decide +kernel
theorem dX8_readWithout_23 : decode cX8_readWithout 23 = .ok (.getfield 43, 3) := by decide +kernel
theorem dX8_readWithout_26 : decode cX8_readWithout 26 = .ok (.aload_n 0, 1) := by decide +kernel
theorem dX8_readWithout_27 : decode cX8_readWithout 27 = .ok (.getfield 10, 3) := by decide +kernel
theorem dX8_readWithout_30 : decode cX8_readWithout 30 = .ok (.aload_n 0, 1) := by decide +kernel
theorem dX8_readWithout_31 : decode cX8_readWithout 31 = .ok (.getfield 36, 3) := by decide +kernel
theorem dX8_readWithout_34 : decode cX8_readWithout 34 = .ok (.invokevirtual 144, 3) := by decide +kernel
theorem dX8_readWithout_37 : decode cX8_readWithout 37 = .ok (.aload_n 0, 1) := by decide +kernel
theorem dX8_readWithout_38 : decode cX8_readWithout 38 = .ok (.getfield 50, 3) := by decide +kernel
theorem dX8_readWithout_41 : decode cX8_readWithout 41 = .ok (.aload_n 0, 1) := by decide +kernel
theorem dX8_readWithout_42 : decode cX8_readWithout 42 = .ok (.getfield 43, 3) := by decide +kernel
theorem dX8_readWithout_45 : decode cX8_readWithout 45 = .ok (.aload_n 0, 1) := by decide +kernel
theorem dX8_readWithout_46 : decode cX8_readWithout 46 = .ok (.getfield 10, 3) := by decide +kernel
theorem dX8_readWithout_49 : decode cX8_readWithout 49 = .ok (.getfield 73, 3) := by decide +kernel
theorem dX8_readWithout_52 : decode cX8_readWithout 52 = .ok (.iload_n 1, 1) := by decide +kernel
theorem dX8_readWithout_53 : decode cX8_readWithout 53 = .ok (.iconst 0, 1) := by decide +kernel
theorem dX8_readWithout_54 : decode cX8_readWithout 54 = .ok (.invokevirtual 108, 3) := by decide +kernel
theorem dX8_readWithout_57 : decode cX8_readWithout 57 = .ok (.invokevirtual 147, 3) := by decide +kernel
theorem dX8_readWithout_60 : decode cX8_readWithout 60 = .ok (.return_, 1) := by decide +kernel
set_option maxRecDepth 20000 in
theorem ggX8_breaksMadeBy_X1_number : GoodIn wsX8_breaksMadeBy wsX1_number := goodIn_r _ [7, 8, 9, 10, 11, 6, 12, 13, 38, 39] (by decide +kernel) (by decide +kernel)
set_option maxRecDepth 20000 in
theorem gX8_breaksMadeBy_X1_number : GoodIn wsX8_breaksMadeBy (wsV RX8 108 RX1 yX1_number wsX1_number) := goodIn_app (goodIn_of _ (by decide +kernel)) ggX8_breaksMadeBy_X1_number
set_option maxRecDepth 20000 in
theorem ggX8_breaksMadeBy_X5_breaksMadeBy : GoodIn wsX8_breaksMadeBy wsX5_breaksMadeBy := goodIn_r _ [18, 19, 20, 21, 22, 23, 24, 17, 25, 40, 41, 42, 43, 44, 45, 46] (by decide +kernel) (by decide +kernel)
set_option maxRecDepth 20000 in
theorem gX8_breaksMadeBy_X5_breaksMadeBy : GoodIn wsX8_breaksMadeBy (wsV RX8 297 RX5 yX5_breaksMadeBy wsX5_breaksMadeBy) := goodIn_app (goodIn_of _ (by decide +kernel)) ggX8_breaksMadeBy_X5_breaksMadeBy
theorem dX8_breaksMadeBy_0 : decode cX8_breaksMadeBy 0 = .ok (.aload_n 0, 1) := by decide +kernel
theorem dX8_breaksMadeBy_1 : decode cX8_breaksMadeBy 1 = .ok (.getfield 10, 3) := by decide +kernel
theorem dX8_breaksMadeBy_4 : decode cX8_breaksMadeBy 4 = .ok (.getfield 73, 3) := by decide +kernel
