theorem dX8_bitsOf_60 : decode cX8_bitsOf 60 = .ok (.f2i, 1) := by decide +kernel
theorem dX8_bitsOf_61 : decode cX8_bitsOf 61 = .ok (.iadd, 1) := by decide +kernel
theorem dX8_bitsOf_62 : decode cX8_bitsOf 62 = .ok (.ireturn, 1) := by decide +kernel
theorem dJ9_max_7cf53_0 : decode cJ9_max_7cf53 0 = .ok (.iload_n 0, 1) := by decide +kernel
theorem dJ9_max_7cf53_1 : decode cJ9_max_7cf53 1 = .ok (.iload_n 1, 1) := by decide +kernel
theorem dJ9_max_7cf53_2 : decode cJ9_max_7cf53 2 = .ok (.if_icmp .lt 7, 3) := by decide +kernel
theorem dJ9_max_7cf53_5 : decode cJ9_max_7cf53 5 = .ok (.iload_n 0, 1) := by decide +kernel
theorem dJ9_max_7cf53_6 : decode cJ9_max_7cf53 6 = .ok (.goto 4, 3) := by decide +kernel
theorem dJ9_max_7cf53_9 : decode cJ9_max_7cf53 9 = .ok (.iload_n 1, 1) := by decide +kernel
theorem dJ9_max_7cf53_10 : decode cJ9_max_7cf53 10 = .ok (.ireturn, 1) := by decide +kernel
theorem dL_cell_0 : decode cL_cell 0 = .ok (.iload_n 1, 1) := by decide +kernel
theorem dL_cell_1 : decode cL_cell 1 = .ok (.aload_n 0, 1) := by decide +kernel
theorem dL_cell_2 : decode cL_cell 2 = .ok (.arraylength, 1) := by decide +kernel
theorem dL_cell_3 : decode cL_cell 3 = .ok (.if_icmp .ge 9, 3) := by decide +kernel
theorem dL_cell_6 : decode cL_cell 6 = .ok (.aload_n 0, 1) := by decide +kernel
theorem dL_cell_7 : decode cL_cell 7 = .ok (.iload_n 1, 1) := by decide +kernel
theorem dL_cell_8 : decode cL_cell 8 = .ok (.iaload, 1) := by decide +kernel
theorem dL_cell_9 : decode cL_cell 9 = .ok (.goto 11, 3) := by decide +kernel
theorem dL_cell_12 : decode cL_cell 12 = .ok (.ldc 7, 2) := by decide +kernel
theorem dL_cell_14 : decode cL_cell 14 = .ok (.iload_n 1, 1) := by decide +kernel
theorem dL_cell_15 : decode cL_cell 15 = .ok (.imul, 1) := by decide +kernel
theorem dL_cell_16 : decode cL_cell 16 = .ok (.sipush 1279, 3) := by decide +kernel
theorem dL_cell_19 : decode cL_cell 19 = .ok (.iadd, 1) := by decide +kernel
theorem dL_cell_20 : decode cL_cell 20 = .ok (.ldc 8, 2) := by decide +kernel
theorem dL_cell_22 : decode cL_cell 22 = .ok (.iand, 1) := by decide +kernel
theorem dL_cell_23 : decode cL_cell 23 = .ok (.ireturn, 1) := by decide +kernel
set_option maxRecDepth 20000 in
theorem ggL_isThread_X8_scene : GoodIn wsL_isThread wsX8_scene := goodIn_r _ [5, 6, 7, 8, 9, 10, 4, 11, 12, 13, 14, 15, 16, 17, 18, 19, 20, 21, 22, 23, 24, 25, 26, 27, 28, 29, 30, 31, 32, 33, 34, 35, 36, 37, 38, 39, 40, 41, 42, 43, 44, 45, 46, 47, 48, 49, 50, 51, 52, 53, 54, 55, 56, 57, 58, 59, 60, 61, 62, 63, 64, 65, 66, 67, 68, 69, 70, 71, 72, 73, 74, 75, 76, 77, 78, 79, 80, 81, 82, 83, 84, 85, 86, 87, 88, 89, 90, 91, 92, 93, 94, 95, 96, 97, 98, 99, 100, 101, 102, 103, 104, 105, 106, 107, 108, 109, 110, 111, 112, 113, 114, 115, 116, 117, 118, 119, 120, 121, 122, 123, 124, 125, 126, 127, 128, 129, 130, 131, 132, 133, 134, 135, 136, 137, 138, 139, 140, 141, 142, 143, 144, 145, 146, 147, 148, 149, 150, 151, 152, 153, 154, 155, 156, 157, 158, 159, 160, 161, 162, 163, 164, 165, 166, 167, 168, 169, 290, 291, 292, 293, 294, 295, 296, 297, 298, 299, 300, 301, 302, 303, 304, 305, 306, 307, 308, 309, 310, 311, 312, 313, 314, 315, 316] (by decide +kernel) (by decide +kernel)
set_option maxRecDepth 20000 in
theorem gL_isThread_X8_scene : GoodIn wsL_isThread (wsV RL 9 RX8 yX8_scene wsX8_scene) := goodIn_app (goodIn_of _ (by decide +kernel)) ggL_isThread_X8_scene
set_option maxRecDepth 20000 in
theorem ggL_isThread_X8_at : GoodIn wsL_isThread wsX8_at := goodIn_r _ [173, 7, 9, 10, 4, 11, 174, 92, 93, 38, 94, 95, 96, 97, 36, 37, 39, 40, 290, 291, 292, 293, 294, 295, 296, 297, 298, 299, 300, 301, 314] (by decide +kernel) (by decide +kernel)
set_option maxRecDepth 20000 in
theorem gL_isThread_X8_at : GoodIn wsL_isThread (wsV RL 15 RX8 yX8_at wsX8_at) := goodIn_app (goodIn_of _ (by decide +kernel)) ggL_isThread_X8_at
set_option maxRecDepth 20000 in
theorem ggL_isThread_X8_card : GoodIn wsL_isThread wsX8_card := goodIn_r _ [178, 7, 6, 179, 42, 43, 26, 44, 28, 180, 54, 55, 56, 57, 58, 59, 60, 61, 12, 13, 14, 15, 16, 17, 18, 19, 20, 21, 22, 23, 24, 25, 27, 29, 30, 31, 32, 33, 34, 35, 36, 37, 38, 39, 40, 41, 45, 46, 47, 48, 49, 50, 51, 52, 53, 62, 4, 63, 64, 65, 66, 67, 68, 69, 70, 71, 72, 73, 74, 75, 76, 181, 182, 183, 184, 185, 186, 187, 188, 124, 125, 126, 127, 189, 121, 122, 123, 190, 191, 192, 193, 194, 137, 138, 139, 195, 145, 146, 147, 196, 290, 291, 292, 293, 294, 295, 296, 297, 298, 299, 300, 301, 312, 313, 302, 303, 304, 305, 306, 307, 308, 309, 310, 311, 314] (by decide +kernel) (by decide +kernel)
set_option maxRecDepth 20000 in
theorem gL_isThread_X8_card : GoodIn wsL_isThread (wsV RL 18 RX8 yX8_card wsX8_card) := goodIn_app (goodIn_of _ (by decide +kernel)) ggL_isThread_X8_card
set_option maxRecDepth 20000 in
theorem ggL_isThread_X8_count : GoodIn wsL_isThread wsX8_count := goodIn_r _ [200, 7, 6, 8, 201, 202, 203, 30, 31, 32, 33, 34, 12, 13, 14, 15, 16, 17, 18, 19, 20, 21, 22, 23, 24, 25, 26, 27, 28, 29, 35, 36, 37, 38, 39, 40, 41, 42, 43, 44, 45, 46, 47, 48, 49, 50, 51, 52, 53, 54, 55, 56, 57, 58, 59, 60, 61, 62, 4, 63, 64, 65, 66, 67, 68, 69, 70, 71, 72, 73, 74, 75, 76, 204, 205, 206, 207, 208, 209, 210, 211, 212, 213, 214, 215, 97, 216, 217, 218, 219, 160, 88, 89, 90, 91, 92, 93, 94, 10, 11, 95, 96, 112, 113, 114, 115, 116, 117, 118, 119, 120, 121, 122, 123, 124, 125, 126, 127, 128, 129, 130, 131, 132, 133, 134, 135, 136, 137, 138, 139, 140, 141, 142, 143, 144, 145, 146, 147, 148, 149, 150, 151, 220, 221, 222, 223, 224, 157, 158, 159, 161, 162, 163, 164, 77, 78, 79, 80, 81, 82, 83, 84, 85, 86, 87, 98, 99, 100, 101, 102, 103, 104, 105, 106, 107, 108, 109, 110, 225, 226, 227, 228, 229, 230, 231, 232, 233, 234, 235, 236, 237, 238, 239, 240, 241, 242, 243, 244, 245, 246, 247, 248, 290, 291, 292, 293, 294, 295, 296, 297, 298, 299, 300, 301, 302, 303, 304, 305, 306, 307, 308, 309, 310, 311, 312, 313, 314, 315, 316, 317, 318, 319, 320, 321, 322, 323, 324] (by decide +kernel) (by decide +kernel)
set_option maxRecDepth 20000 in
theorem gL_isThread_X8_count : GoodIn wsL_isThread (wsV RL 21 RX8 yX8_count wsX8_count) := goodIn_app (goodIn_of _ (by decide +kernel)) ggL_isThread_X8_count
set_option maxRecDepth 20000 in
theorem ggL_isThread_X8_thread : GoodIn wsL_isThread wsX8_thread := goodIn_r _ [252, 6, 7, 253, 254, 62, 4, 63, 12, 13, 14, 15, 16, 17, 18, 19, 20, 21, 22, 23, 24, 25, 26, 27, 28, 29, 30, 31, 32, 33, 34, 35, 36, 37, 38, 39, 40, 41, 42, 43, 44, 45, 46, 47, 48, 49, 50, 51, 52, 53, 54, 55, 56, 57, 58, 59, 60, 61, 64, 65, 66, 67, 68, 69, 70, 71, 72, 73, 74, 75, 76, 112, 113, 114, 115, 116, 117, 118, 119, 120, 121, 122, 123, 124, 125, 126, 127, 128, 129, 130, 131, 132, 133, 134, 135, 136, 137, 138, 139, 140, 141, 142, 143, 144, 145, 146, 147, 148, 149, 150, 151, 255, 256, 257, 258, 259, 260, 261, 262, 263, 264, 265, 266, 267, 268, 269, 270, 271, 272, 273, 274, 275, 186, 187, 188, 276, 277, 278, 279, 280, 281, 282, 283, 284, 285, 286, 287, 288, 289, 230, 231, 232, 290, 291, 292, 293, 294, 295, 296, 297, 298, 299, 300, 301, 302, 303, 304, 305, 306, 307, 308, 309, 310, 311, 312, 313, 314, 325, 326, 327, 328, 329, 330, 331] (by decide +kernel) (by decide +kernel)
set_option maxRecDepth 20000 in
theorem gL_isThread_X8_thread : GoodIn wsL_isThread (wsV RL 25 RX8 yX8_thread wsX8_thread) := goodIn_app (goodIn_of _ (by decide +kernel)) ggL_isThread_X8_thread
theorem dL_isThread_0 : decode cL_isThread 0 = .ok (.iconst 0, 1) := by decide +kernel
theorem dL_isThread_1 : decode cL_isThread 1 = .ok (.istore_n 2, 1) := by decide +kernel
theorem dL_isThread_2 : decode cL_isThread 2 = .ok (.iconst 0, 1) := by decide +kernel
theorem dL_isThread_3 : decode cL_isThread 3 = .ok (.istore_n 3, 1) := by decide +kernel
theorem dL_isThread_4 : decode cL_isThread 4 = .ok (.iconst 0, 1) := by decide +kernel
theorem dL_isThread_5 : decode cL_isThread 5 = .ok (.istore 4, 2) := by decide +kernel
theorem dL_isThread_7 : decode cL_isThread 7 = .ok (.iconst 0, 1) := by decide +kernel
theorem dL_isThread_8 : decode cL_isThread 8 = .ok (.istore 5, 2) := by decide +kernel
theorem dL_isThread_10 : decode cL_isThread 10 = .ok (.iconst 0, 1) := by decide +kernel
theorem dL_isThread_11 : decode cL_isThread 11 = .ok (.istore 6, 2) := by decide +kernel
theorem dL_isThread_13 : decode cL_isThread 13 = .ok (.iconst 0, 1) := by decide +kernel
theorem dL_isThread_14 : decode cL_isThread 14 = .ok (.istore 7, 2) := by decide +kernel
theorem dL_isThread_16 : decode cL_isThread 16 = .ok (.bipush (-5), 2) := by decide +kernel
theorem dL_isThread_18 : decode cL_isThread 18 = .ok (.istore 8, 2) := by decide +kernel
theorem dL_isThread_20 : decode cL_isThread 20 = .ok (.bipush (-5), 2) := by decide +kernel
theorem dL_isThread_22 : decode cL_isThread 22 = .ok (.istore 9, 2) := by decide +kernel
theorem dL_isThread_24 : decode cL_isThread 24 = .ok (.iconst 1, 1) := by decide +kernel
theorem dL_isThread_25 : decode cL_isThread 25 = .ok (.istore 10, 2) := by decide +kernel
theorem dL_isThread_27 : decode cL_isThread 27 = .ok (.iconst 0, 1) := by decide +kernel
theorem dL_isThread_28 : decode cL_isThread 28 = .ok (.istore 11, 2) := by decide +kernel
theorem dL_isThread_30 : decode cL_isThread 30 = .ok (.iload 11, 2) := by decide +kernel
theorem dL_isThread_32 : decode cL_isThread 32 = .ok (.bipush 16, 2) := by decide +kernel
theorem dL_isThread_34 : decode cL_isThread 34 = .ok (.if_icmp .ge 276, 3) := by decide +kernel
theorem dL_isThread_37 : decode cL_isThread 37 = .ok (.iconst 0, 1) := by decide +kernel
theorem dL_isThread_38 : decode cL_isThread 38 = .ok (.istore 12, 2) := by decide +kernel
theorem dL_isThread_40 : decode cL_isThread 40 = .ok (.iload 12, 2) := by decide +kernel
theorem dL_isThread_42 : decode cL_isThread 42 = .ok (.aload_n 0, 1) := by decide +kernel
theorem dL_isThread_43 : decode cL_isThread 43 = .ok (.iload 11, 2) := by decide +kernel
theorem dL_isThread_45 : decode cL_isThread 45 = .ok (.iconst 0, 1) := by decide +kernel
theorem dL_isThread_46 : decode cL_isThread 46 = .ok (.invokevirtual 9, 3) := by decide +kernel
theorem dL_isThread_49 : decode cL_isThread 49 = .ok (.if_icmp .ge 255, 3) := by decide +kernel
theorem dL_isThread_52 : decode cL_isThread 52 = .ok (.iload 10, 2) := by decide +kernel
theorem dL_isThread_54 : decode cL_isThread 54 = .ok (.ifCond .eq 250, 3) := by decide +kernel
theorem dL_isThread_57 : decode cL_isThread 57 = .ok (.aload_n 0, 1) := by decide +kernel
theorem dL_isThread_58 : decode cL_isThread 58 = .ok (.iload 11, 2) := by decide +kernel
theorem dL_isThread_60 : decode cL_isThread 60 = .ok (.iload 12, 2) := by decide +kernel
theorem dL_isThread_62 : decode cL_isThread 62 = .ok (.invokevirtual 15, 3) := by decide +kernel
theorem dL_isThread_65 : decode cL_isThread 65 = .ok (.istore 13, 2) := by decide +kernel
theorem dL_isThread_67 : decode cL_isThread 67 = .ok (.aload_n 0, 1) := by decide +kernel
theorem dL_isThread_68 : decode cL_isThread 68 = .ok (.iload 13, 2) := by decide +kernel
theorem dL_isThread_70 : decode cL_isThread 70 = .ok (.iconst 0, 1) := by decide +kernel
theorem dL_isThread_71 : decode cL_isThread 71 = .ok (.invokevirtual 18, 3) := by decide +kernel
theorem dL_isThread_74 : decode cL_isThread 74 = .ok (.iload_n 1, 1) := by decide +kernel
theorem dL_isThread_75 : decode cL_isThread 75 = .ok (.if_icmp .ne 223, 3) := by decide +kernel
theorem dL_isThread_78 : decode cL_isThread 78 = .ok (.iinc 2 1, 3) := by decide +kernel
theorem dL_isThread_81 : decode cL_isThread 81 = .ok (.iload 7, 2) := by decide +kernel
theorem dL_isThread_83 : decode cL_isThread 83 = .ok (.aload_n 0, 1) := by decide +kernel
theorem dL_isThread_84 : decode cL_isThread 84 = .ok (.iload 13, 2) := by decide +kernel
theorem dL_isThread_86 : decode cL_isThread 86 = .ok (.iconst 2, 1) := by decide +kernel
theorem dL_isThread_87 : decode cL_isThread 87 = .ok (.invokevirtual 18, 3) := by decide +kernel
theorem dL_isThread_90 : decode cL_isThread 90 = .ok (.iadd, 1) := by decide +kernel
theorem dL_isThread_91 : decode cL_isThread 91 = .ok (.istore 7, 2) := by decide +kernel
theorem dL_isThread_93 : decode cL_isThread 93 = .ok (.aload_n 0, 1) := by decide +kernel
theorem dL_isThread_94 : decode cL_isThread 94 = .ok (.iload 13, 2) := by decide +kernel
theorem dL_isThread_96 : decode cL_isThread 96 = .ok (.bipush 9, 2) := by decide +kernel
theorem dL_isThread_98 : decode cL_isThread 98 = .ok (.invokevirtual 18, 3) := by decide +kernel
theorem dL_isThread_101 : decode cL_isThread 101 = .ok (.iload 8, 2) := by decide +kernel
theorem dL_isThread_103 : decode cL_isThread 103 = .ok (.if_icmp .ne 7, 3) := by decide +kernel
theorem dL_isThread_106 : decode cL_isThread 106 = .ok (.iconst 1, 1) := by decide +kernel
theorem dL_isThread_107 : decode cL_isThread 107 = .ok (.goto 4, 3) := by decide +kernel
theorem dL_isThread_110 : decode cL_isThread 110 = .ok (.iconst 0, 1) := by decide +kernel
theorem dL_isThread_111 : decode cL_isThread 111 = .ok (.istore 10, 2) := by decide +kernel
theorem dL_isThread_113 : decode cL_isThread 113 = .ok (.iload 5, 2) := by decide +kernel
theorem dL_isThread_115 : decode cL_isThread 115 = .ok (.iload 8, 2) := by decide +kernel
theorem dL_isThread_117 : decode cL_isThread 117 = .ok (.ifCond .lt 28, 3) := by decide +kernel
theorem dL_isThread_120 : decode cL_isThread 120 = .ok (.iload 11, 2) := by decide +kernel
theorem dL_isThread_122 : decode cL_isThread 122 = .ok (.aload_n 0, 1) := by decide +kernel
theorem dL_isThread_123 : decode cL_isThread 123 = .ok (.iload 8, 2) := by decide +kernel
theorem dL_isThread_125 : decode cL_isThread 125 = .ok (.iconst 5, 1) := by decide +kernel
theorem dL_isThread_126 : decode cL_isThread 126 = .ok (.invokevirtual 18, 3) := by decide +kernel
theorem dL_isThread_129 : decode cL_isThread 129 = .ok (.isub, 1) := by decide +kernel
theorem dL_isThread_130 : decode cL_isThread 130 = .ok (.iconst 1, 1) := by decide +kernel
theorem dL_isThread_131 : decode cL_isThread 131 = .ok (.isub, 1) := by decide +kernel
theorem dL_isThread_132 : decode cL_isThread 132 = .ok (.aload_n 0, 1) := by decide +kernel
theorem dL_isThread_133 : decode cL_isThread 133 = .ok (.bipush 10, 2) := by decide +kernel
theorem dL_isThread_135 : decode cL_isThread 135 = .ok (.invokevirtual 21, 3) := by decide +kernel
theorem dL_isThread_138 : decode cL_isThread 138 = .ok (.if_icmp .le 7, 3) := by decide +kernel
theorem dL_isThread_141 : decode cL_isThread 141 = .ok (.iconst 1, 1) := by decide +kernel
theorem dL_isThread_142 : decode cL_isThread 142 = .ok (.goto 4, 3) := by decide +kernel
theorem dL_isThread_145 : decode cL_isThread 145 = .ok (.iconst 0, 1) := by decide +kernel
theorem dL_isThread_146 : decode cL_isThread 146 = .ok (.iadd, 1) := by decide +kernel
theorem dL_isThread_147 : decode cL_isThread 147 = .ok (.istore 5, 2) := by decide +kernel
theorem dL_isThread_149 : decode cL_isThread 149 = .ok (.iload 13, 2) := by decide +kernel
theorem dL_isThread_151 : decode cL_isThread 151 = .ok (.istore 8, 2) := by decide +kernel
theorem dL_isThread_153 : decode cL_isThread 153 = .ok (.aload_n 0, 1) := by decide +kernel
theorem dL_isThread_154 : decode cL_isThread 154 = .ok (.iload 13, 2) := by decide +kernel
theorem dL_isThread_156 : decode cL_isThread 156 = .ok (.iconst 4, 1) := by decide +kernel
theorem dL_isThread_157 : decode cL_isThread 157 = .ok (.invokevirtual 18, 3) := by decide +kernel
theorem dL_isThread_160 : decode cL_isThread 160 = .ok (.iconst 1, 1) := by decide +kernel
theorem dL_isThread_161 : decode cL_isThread 161 = .ok (.if_icmp .ne 7, 3) := by decide +kernel
theorem dL_isThread_164 : decode cL_isThread 164 = .ok (.iconst 1, 1) := by decide +kernel
theorem dL_isThread_165 : decode cL_isThread 165 = .ok (.goto 4, 3) := by decide +kernel
theorem dL_isThread_168 : decode cL_isThread 168 = .ok (.iconst 0, 1) := by decide +kernel
theorem dL_isThread_169 : decode cL_isThread 169 = .ok (.istore 14, 2) := by decide +kernel
theorem dL_isThread_171 : decode cL_isThread 171 = .ok (.iload 14, 2) := by decide +kernel
theorem dL_isThread_173 : decode cL_isThread 173 = .ok (.ifCond .ne 8, 3) := by decide +kernel
theorem dL_isThread_176 : decode cL_isThread 176 = .ok (.iload 9, 2) := by decide +kernel
theorem dL_isThread_178 : decode cL_isThread 178 = .ok (.ifCond .ge 7, 3) := by decide +kernel
theorem dL_isThread_181 : decode cL_isThread 181 = .ok (.iconst 0, 1) := by decide +kernel
theorem dL_isThread_182 : decode cL_isThread 182 = .ok (.goto 18, 3) := by decide +kernel
theorem dL_isThread_185 : decode cL_isThread 185 = .ok (.aload_n 0, 1) := by decide +kernel
theorem dL_isThread_186 : decode cL_isThread 186 = .ok (.iload 13, 2) := by decide +kernel
theorem dL_isThread_188 : decode cL_isThread 188 = .ok (.iconst 1, 1) := by decide +kernel
theorem dL_isThread_189 : decode cL_isThread 189 = .ok (.invokevirtual 18, 3) := by decide +kernel
theorem dL_isThread_192 : decode cL_isThread 192 = .ok (.aload_n 0, 1) := by decide +kernel
theorem dL_isThread_193 : decode cL_isThread 193 = .ok (.iload 9, 2) := by decide +kernel
theorem dL_isThread_195 : decode cL_isThread 195 = .ok (.iconst 1, 1) := by decide +kernel
theorem dL_isThread_196 : decode cL_isThread 196 = .ok (.invokevirtual 18, 3) := by decide +kernel
theorem dL_isThread_199 : decode cL_isThread 199 = .ok (.isub, 1) := by decide +kernel
theorem dL_isThread_200 : decode cL_isThread 200 = .ok (.istore 15, 2) := by decide +kernel
theorem dL_isThread_202 : decode cL_isThread 202 = .ok (.iload 10, 2) := by decide +kernel
theorem dL_isThread_204 : decode cL_isThread 204 = .ok (.ifCond .eq 28, 3) := by decide +kernel
theorem dL_isThread_207 : decode cL_isThread 207 = .ok (.aload_n 0, 1) := by decide +kernel
theorem dL_isThread_208 : decode cL_isThread 208 = .ok (.iload 13, 2) := by decide +kernel
theorem dL_isThread_210 : decode cL_isThread 210 = .ok (.bipush 7, 2) := by decide +kernel
theorem dL_isThread_212 : decode cL_isThread 212 = .ok (.invokevirtual 18, 3) := by decide +kernel
theorem dL_isThread_215 : decode cL_isThread 215 = .ok (.iload 15, 2) := by decide +kernel
theorem dL_isThread_217 : decode cL_isThread 217 = .ok (.ifCond .ge 7, 3) := by decide +kernel
theorem dL_isThread_220 : decode cL_isThread 220 = .ok (.iconst 1, 1) := by decide +kernel
theorem dL_isThread_221 : decode cL_isThread 221 = .ok (.goto 4, 3) := by decide +kernel
theorem dL_isThread_224 : decode cL_isThread 224 = .ok (.iconst 0, 1) := by decide +kernel
theorem dL_isThread_225 : decode cL_isThread 225 = .ok (.if_icmp .ne 7, 3) := by decide +kernel
theorem dL_isThread_228 : decode cL_isThread 228 = .ok (.iconst 1, 1) := by decide +kernel
theorem dL_isThread_229 : decode cL_isThread 229 = .ok (.goto 4, 3) := by decide +kernel
theorem dL_isThread_232 : decode cL_isThread 232 = .ok (.iconst 0, 1) := by decide +kernel
theorem dL_isThread_233 : decode cL_isThread 233 = .ok (.istore 10, 2) := by decide +kernel
theorem dL_isThread_235 : decode cL_isThread 235 = .ok (.iload 4, 2) := by decide +kernel
theorem dL_isThread_237 : decode cL_isThread 237 = .ok (.iload 15, 2) := by decide +kernel
theorem dL_isThread_239 : decode cL_isThread 239 = .ok (.ifCond .ge 7, 3) := by decide +kernel
theorem dL_isThread_242 : decode cL_isThread 242 = .ok (.iconst 1, 1) := by decide +kernel
theorem dL_isThread_243 : decode cL_isThread 243 = .ok (.goto 4, 3) := by decide +kernel
theorem dL_isThread_246 : decode cL_isThread 246 = .ok (.iconst 0, 1) := by decide +kernel
theorem dL_isThread_247 : decode cL_isThread 247 = .ok (.iadd, 1) := by decide +kernel
theorem dL_isThread_248 : decode cL_isThread 248 = .ok (.istore 4, 2) := by decide +kernel
theorem dL_isThread_250 : decode cL_isThread 250 = .ok (.iload 6, 2) := by decide +kernel
theorem dL_isThread_252 : decode cL_isThread 252 = .ok (.iload 15, 2) := by decide +kernel
theorem dL_isThread_254 : decode cL_isThread 254 = .ok (.aload_n 0, 1) := by decide +kernel
theorem dL_isThread_255 : decode cL_isThread 255 = .ok (.bipush 11, 2) := by decide +kernel
theorem dL_isThread_257 : decode cL_isThread 257 = .ok (.invokevirtual 21, 3) := by decide +kernel
theorem dL_isThread_260 : decode cL_isThread 260 = .ok (.if_icmp .le 7, 3) := by decide +kernel
theorem dL_isThread_263 : decode cL_isThread 263 = .ok (.iconst 1, 1) := by decide +kernel
theorem dL_isThread_264 : decode cL_isThread 264 = .ok (.goto 4, 3) := by decide +kernel
theorem dL_isThread_267 : decode cL_isThread 267 = .ok (.iconst 0, 1) := by decide +kernel
theorem dL_isThread_268 : decode cL_isThread 268 = .ok (.iadd, 1) := by decide +kernel
theorem dL_isThread_269 : decode cL_isThread 269 = .ok (.istore 6, 2) := by decide +kernel
theorem dL_isThread_271 : decode cL_isThread 271 = .ok (.iload_n 3, 1) := by decide +kernel
theorem dL_isThread_272 : decode cL_isThread 272 = .ok (.iload 14, 2) := by decide +kernel
theorem dL_isThread_274 : decode cL_isThread 274 = .ok (.ifCond .eq 7, 3) := by decide +kernel
theorem dL_isThread_277 : decode cL_isThread 277 = .ok (.iconst 0, 1) := by decide +kernel
theorem dL_isThread_278 : decode cL_isThread 278 = .ok (.goto 4, 3) := by decide +kernel
theorem dL_isThread_281 : decode cL_isThread 281 = .ok (.iconst 1, 1) := by decide +kernel
theorem dL_isThread_282 : decode cL_isThread 282 = .ok (.iadd, 1) := by decide +kernel
theorem dL_isThread_283 : decode cL_isThread 283 = .ok (.istore_n 3, 1) := by decide +kernel
theorem dL_isThread_284 : decode cL_isThread 284 = .ok (.iload 14, 2) := by decide +kernel
theorem dL_isThread_286 : decode cL_isThread 286 = .ok (.ifCond .eq 8, 3) := by decide +kernel
theorem dL_isThread_289 : decode cL_isThread 289 = .ok (.iload 9, 2) := by decide +kernel
theorem dL_isThread_291 : decode cL_isThread 291 = .ok (.goto 5, 3) := by decide +kernel
theorem dL_isThread_294 : decode cL_isThread 294 = .ok (.iload 13, 2) := by decide +kernel
theorem dL_isThread_296 : decode cL_isThread 296 = .ok (.istore 9, 2) := by decide +kernel
theorem dL_isThread_298 : decode cL_isThread 298 = .ok (.iinc 12 1, 3) := by decide +kernel
theorem dL_isThread_301 : decode cL_isThread 301 = .ok (.goto (-261), 3) := by decide +kernel
theorem dL_isThread_304 : decode cL_isThread 304 = .ok (.iinc 11 1, 3) := by decide +kernel
theorem dL_isThread_307 : decode cL_isThread 307 = .ok (.goto (-277), 3) := by decide +kernel
theorem dL_isThread_310 : decode cL_isThread 310 = .ok (.aload_n 0, 1) := by decide +kernel
theorem dL_isThread_311 : decode cL_isThread 311 = .ok (.iload_n 1, 1) := by decide +kernel
theorem dL_isThread_312 : decode cL_isThread 312 = .ok (.iconst 4, 1) := by decide +kernel
theorem dL_isThread_313 : decode cL_isThread 313 = .ok (.invokevirtual 25, 3) := by decide +kernel
theorem dL_isThread_316 : decode cL_isThread 316 = .ok (.istore 11, 2) := by decide +kernel
theorem dL_isThread_318 : decode cL_isThread 318 = .ok (.iload 10, 2) := by decide +kernel
theorem dL_isThread_320 : decode cL_isThread 320 = .ok (.ifCond .eq 73, 3) := by decide +kernel
theorem dL_isThread_323 : decode cL_isThread 323 = .ok (.iload_n 2, 1) := by decide +kernel
theorem dL_isThread_324 : decode cL_isThread 324 = .ok (.aload_n 0, 1) := by decide +kernel
theorem dL_isThread_325 : decode cL_isThread 325 = .ok (.iload_n 1, 1) := by decide +kernel
theorem dL_isThread_326 : decode cL_isThread 326 = .ok (.iconst 0, 1) := by decide +kernel
theorem dL_isThread_327 : decode cL_isThread 327 = .ok (.invokevirtual 25, 3) := by decide +kernel
theorem dL_isThread_330 : decode cL_isThread 330 = .ok (.if_icmp .ne 63, 3) := by decide +kernel
theorem dL_isThread_333 : decode cL_isThread 333 = .ok (.iload_n 3, 1) := by decide +kernel
theorem dL_isThread_334 : decode cL_isThread 334 = .ok (.aload_n 0, 1) := by decide +kernel
theorem dL_isThread_335 : decode cL_isThread 335 = .ok (.iload_n 1, 1) := by decide +kernel
theorem dL_isThread_336 : decode cL_isThread 336 = .ok (.iconst 2, 1) := by decide +kernel
theorem dL_isThread_337 : decode cL_isThread 337 = .ok (.invokevirtual 25, 3) := by decide +kernel
theorem dL_isThread_340 : decode cL_isThread 340 = .ok (.if_icmp .ne 53, 3) := by decide +kernel
theorem dL_isThread_343 : decode cL_isThread 343 = .ok (.iload 4, 2) := by decide +kernel
theorem dL_isThread_345 : decode cL_isThread 345 = .ok (.aload_n 0, 1) := by decide +kernel
theorem dL_isThread_346 : decode cL_isThread 346 = .ok (.iload_n 1, 1) := by decide +kernel
theorem dL_isThread_347 : decode cL_isThread 347 = .ok (.iconst 3, 1) := by decide +kernel
theorem dL_isThread_348 : decode cL_isThread 348 = .ok (.invokevirtual 25, 3) := by decide +kernel
theorem dL_isThread_351 : decode cL_isThread 351 = .ok (.if_icmp .ne 42, 3) := by decide +kernel
theorem dL_isThread_354 : decode cL_isThread 354 = .ok (.iload 5, 2) := by decide +kernel
theorem dL_isThread_356 : decode cL_isThread 356 = .ok (.aload_n 0, 1) := by decide +kernel
theorem dL_isThread_357 : decode cL_isThread 357 = .ok (.iload_n 1, 1) := by decide +kernel
theorem dL_isThread_358 : decode cL_isThread 358 = .ok (.iconst 5, 1) := by decide +kernel
theorem dL_isThread_359 : decode cL_isThread 359 = .ok (.invokevirtual 25, 3) := by decide +kernel
theorem dL_isThread_362 : decode cL_isThread 362 = .ok (.if_icmp .ne 31, 3) := by decide +kernel
theorem dL_isThread_365 : decode cL_isThread 365 = .ok (.iload 6, 2) := by decide +kernel
theorem dL_isThread_367 : decode cL_isThread 367 = .ok (.aload_n 0, 1) := by decide +kernel
theorem dL_isThread_368 : decode cL_isThread 368 = .ok (.iload_n 1, 1) := by decide +kernel
theorem dL_isThread_369 : decode cL_isThread 369 = .ok (.bipush 6, 2) := by decide +kernel
theorem dL_isThread_371 : decode cL_isThread 371 = .ok (.invokevirtual 25, 3) := by decide +kernel
theorem dL_isThread_374 : decode cL_isThread 374 = .ok (.if_icmp .ne 19, 3) := by decide +kernel
theorem dL_isThread_377 : decode cL_isThread 377 = .ok (.iload 7, 2) := by decide +kernel
theorem dL_isThread_379 : decode cL_isThread 379 = .ok (.aload_n 0, 1) := by decide +kernel
theorem dL_isThread_380 : decode cL_isThread 380 = .ok (.iload_n 1, 1) := by decide +kernel
theorem dL_isThread_381 : decode cL_isThread 381 = .ok (.bipush 7, 2) := by decide +kernel
theorem dL_isThread_383 : decode cL_isThread 383 = .ok (.invokevirtual 25, 3) := by decide +kernel
theorem dL_isThread_386 : decode cL_isThread 386 = .ok (.if_icmp .ne 7, 3) := by decide +kernel
theorem dL_isThread_389 : decode cL_isThread 389 = .ok (.iconst 1, 1) := by decide +kernel
theorem dL_isThread_390 : decode cL_isThread 390 = .ok (.goto 4, 3) := by decide +kernel
theorem dL_isThread_393 : decode cL_isThread 393 = .ok (.iconst 0, 1) := by decide +kernel
theorem dL_isThread_394 : decode cL_isThread 394 = .ok (.istore 10, 2) := by decide +kernel
theorem dL_isThread_396 : decode cL_isThread 396 = .ok (.iload 10, 2) := by decide +kernel
theorem dL_isThread_398 : decode cL_isThread 398 = .ok (.ifCond .eq 51, 3) := by decide +kernel
theorem dL_isThread_401 : decode cL_isThread 401 = .ok (.iload 11, 2) := by decide +kernel
theorem dL_isThread_403 : decode cL_isThread 403 = .ok (.ifCond .ne 7, 3) := by decide +kernel
theorem dL_isThread_406 : decode cL_isThread 406 = .ok (.iconst 1, 1) := by decide +kernel
theorem dL_isThread_407 : decode cL_isThread 407 = .ok (.goto 4, 3) := by decide +kernel
theorem dL_isThread_410 : decode cL_isThread 410 = .ok (.iconst 0, 1) := by decide +kernel
theorem dL_isThread_411 : decode cL_isThread 411 = .ok (.iload 4, 2) := by decide +kernel
theorem dL_isThread_413 : decode cL_isThread 413 = .ok (.ifCond .ne 7, 3) := by decide +kernel
theorem dL_isThread_416 : decode cL_isThread 416 = .ok (.iconst 1, 1) := by decide +kernel
theorem dL_isThread_417 : decode cL_isThread 417 = .ok (.goto 4, 3) := by decide +kernel
theorem dL_isThread_420 : decode cL_isThread 420 = .ok (.iconst 0, 1) := by decide +kernel
theorem dL_isThread_421 : decode cL_isThread 421 = .ok (.if_icmp .ne 28, 3) := by decide +kernel
theorem dL_isThread_424 : decode cL_isThread 424 = .ok (.iload 11, 2) := by decide +kernel
theorem dL_isThread_426 : decode cL_isThread 426 = .ok (.ifCond .lt 23, 3) := by decide +kernel
theorem dL_isThread_429 : decode cL_isThread 429 = .ok (.iload 11, 2) := by decide +kernel
theorem dL_isThread_431 : decode cL_isThread 431 = .ok (.iload_n 3, 1) := by decide +kernel
theorem dL_isThread_432 : decode cL_isThread 432 = .ok (.if_icmp .gt 17, 3) := by decide +kernel
theorem dL_isThread_435 : decode cL_isThread 435 = .ok (.iload_n 3, 1) := by decide +kernel
theorem dL_isThread_436 : decode cL_isThread 436 = .ok (.ifCond .eq 9, 3) := by decide +kernel
theorem dL_isThread_439 : decode cL_isThread 439 = .ok (.iload 11, 2) := by decide +kernel
theorem dL_isThread_441 : decode cL_isThread 441 = .ok (.iload_n 3, 1) := by decide +kernel
theorem dL_isThread_442 : decode cL_isThread 442 = .ok (.if_icmp .ge 7, 3) := by decide +kernel
theorem dL_isThread_445 : decode cL_isThread 445 = .ok (.iconst 1, 1) := by decide +kernel
theorem dL_isThread_446 : decode cL_isThread 446 = .ok (.goto 4, 3) := by decide +kernel
theorem dL_isThread_449 : decode cL_isThread 449 = .ok (.iconst 0, 1) := by decide +kernel
theorem dL_isThread_450 : decode cL_isThread 450 = .ok (.ireturn, 1) := by decide +kernel
set_option maxRecDepth 20000 in
theorem ggL_isAll_X8_scene : GoodIn wsL_isAll wsX8_scene := goodIn_r _ [5, 6, 7, 8, 9, 10, 4, 11, 12, 13, 14, 15, 16, 17, 18, 19, 20, 21, 22, 23, 24, 25, 26, 27, 28, 29, 30, 31, 32, 33, 34, 35, 36, 37, 38, 39, 40, 41, 42, 43, 44, 45, 46, 47, 48, 49, 50, 51, 52, 53, 54, 55, 56, 57, 58, 59, 60, 61, 62, 63, 64, 65, 66, 67, 68, 69, 70, 71, 72, 73, 74, 75, 76, 77, 78, 79, 80, 81, 82, 83, 84, 85, 86, 87, 88, 89, 90, 91, 92, 93, 94, 95, 96, 97, 98, 99, 100, 101, 102, 103, 104, 105, 106, 107, 108, 109, 110, 111, 112, 113, 114, 115, 116, 117, 118, 119, 120, 121, 122, 123, 124, 125, 126, 127, 128, 129, 130, 131, 132, 133, 134, 135, 136, 137, 138, 139, 140, 141, 142, 143, 144, 145, 146, 147, 148, 149, 150, 151, 152, 153, 154, 155, 156, 157, 158, 159, 160, 161, 162, 163, 164, 165, 166, 167, 168, 169, 307, 308, 309, 310, 311, 312, 313, 314, 315, 316, 317, 318, 319, 320, 321, 322, 323, 324, 325, 326, 327, 328, 329, 330, 331, 332, 333] (by decide +kernel) (by decide +kernel)
set_option maxRecDepth 20000 in
theorem gL_isAll_X8_scene : GoodIn wsL_isAll (wsV RL 9 RX8 yX8_scene wsX8_scene) := goodIn_app (goodIn_of _ (by decide +kernel)) ggL_isAll_X8_scene
set_option maxRecDepth 20000 in
theorem ggL_isAll_X8_at : GoodIn wsL_isAll wsX8_at := goodIn_r _ [173, 7, 9, 10, 4, 11, 174, 92, 93, 38, 94, 95, 96, 97, 36, 37, 39, 40, 307, 308, 309, 310, 311, 312, 313, 314, 315, 316, 317, 318, 331] (by decide +kernel) (by decide +kernel)
set_option maxRecDepth 20000 in
theorem gL_isAll_X8_at : GoodIn wsL_isAll (wsV RL 15 RX8 yX8_at wsX8_at) := goodIn_app (goodIn_of _ (by decide +kernel)) ggL_isAll_X8_at
set_option maxRecDepth 20000 in
theorem ggL_isAll_X8_card : GoodIn wsL_isAll wsX8_card := goodIn_r _ [178, 7, 6, 179, 42, 43, 26, 44, 28, 180, 54, 55, 56, 57, 58, 59, 60, 61, 12, 13, 14, 15, 16, 17, 18, 19, 20, 21, 22, 23, 24, 25, 27, 29, 30, 31, 32, 33, 34, 35, 36, 37, 38, 39, 40, 41, 45, 46, 47, 48, 49, 50, 51, 52, 53, 62, 4, 63, 64, 65, 66, 67, 68, 69, 70, 71, 72, 73, 74, 75, 76, 181, 182, 183, 184, 185, 186, 187, 188, 124, 125, 126, 127, 189, 121, 122, 123, 190, 191, 192, 193, 194, 137, 138, 139, 195, 145, 146, 147, 196, 307, 308, 309, 310, 311, 312, 313, 314, 315, 316, 317, 318, 329, 330, 319, 320, 321, 322, 323, 324, 325, 326, 327, 328, 331] (by decide +kernel) (by decide +kernel)
set_option maxRecDepth 20000 in
theorem gL_isAll_X8_card : GoodIn wsL_isAll (wsV RL 18 RX8 yX8_card wsX8_card) := goodIn_app (goodIn_of _ (by decide +kernel)) ggL_isAll_X8_card
set_option maxRecDepth 20000 in
theorem ggL_isAll_X8_broken : GoodIn wsL_isAll wsX8_broken := goodIn_r _ [200, 6, 7, 12, 13, 14, 15, 16, 17, 18, 19, 20, 21, 22, 23, 24, 25, 26, 27, 28, 29, 30, 31, 32, 33, 34, 35, 36, 37, 38, 39, 40, 41, 42, 43, 44, 45, 46, 47, 48, 49, 50, 51, 52, 53, 54, 55, 56, 57, 58, 59, 60, 61, 62, 4, 63, 64, 65, 66, 67, 68, 69, 70, 71, 72, 73, 74, 75, 76, 201, 202, 203, 204, 136, 137, 138, 139, 124, 125, 126, 127, 185, 186, 187, 188, 307, 308, 309, 310, 311, 312, 313, 314, 315, 316, 317, 318, 319, 320, 321, 322, 323, 324, 325, 326, 327, 328, 329, 330, 331] (by decide +kernel) (by decide +kernel)
set_option maxRecDepth 20000 in
theorem gL_isAll_X8_broken : GoodIn wsL_isAll (wsV RL 28 RX8 yX8_broken wsX8_broken) := goodIn_app (goodIn_of _ (by decide +kernel)) ggL_isAll_X8_broken
set_option maxRecDepth 20000 in
theorem ggL_isAll_X8_tension : GoodIn wsL_isAll wsX8_tension := goodIn_r _ [208, 8, 7, 77, 78, 79, 80, 81, 82, 83, 84, 85, 86, 30, 31, 32, 33, 34, 87, 88, 89, 38, 90, 91, 92, 93, 94, 10, 4, 11, 95, 96, 97, 36, 37, 39, 40, 98, 99, 100, 101, 102, 54, 55, 26, 56, 57, 58, 59, 60, 61, 28, 103, 104, 105, 106, 107, 108, 109, 110, 209, 307, 308, 309, 310, 311, 312, 313, 314, 315, 332, 333, 316, 317, 318, 331, 329, 330] (by decide +kernel) (by decide +kernel)
set_option maxRecDepth 20000 in
theorem gL_isAll_X8_tension : GoodIn wsL_isAll (wsV RL 31 RX8 yX8_tension wsX8_tension) := goodIn_app (goodIn_of _ (by decide +kernel)) ggL_isAll_X8_tension
set_option maxRecDepth 20000 in
theorem ggL_isAll_L_isThread : GoodIn wsL_isAll wsL_isThread := goodIn_r _ [213, 1, 2, 3, 4, 5, 6, 7, 8, 9, 10, 11, 12, 13, 14, 15, 16, 17, 18, 19, 20, 21, 22, 23, 24, 25, 26, 27, 28, 29, 30, 31, 32, 33, 34, 35, 36, 37, 38, 39, 40, 41, 42, 43, 44, 45, 46, 47, 48, 49, 50, 51, 52, 53, 54, 55, 56, 57, 58, 59, 60, 61, 62, 63, 64, 65, 66, 67, 68, 69, 70, 71, 72, 73, 74, 75, 76, 77, 78, 79, 80, 81, 82, 83, 84, 85, 86, 87, 88, 89, 90, 91, 92, 93, 94, 95, 96, 97, 98, 99, 100, 101, 102, 103, 104, 105, 106, 107, 108, 109, 110, 111, 112, 113, 114, 115, 116, 117, 118, 119, 120, 121, 122, 123, 124, 125, 126, 127, 128, 129, 130, 131, 132, 133, 134, 135, 136, 137, 138, 139, 140, 141, 142, 143, 144, 145, 146, 147, 148, 149, 150, 151, 152, 153, 154, 155, 156, 157, 158, 159, 160, 161, 162, 163, 164, 165, 166, 167, 168, 169, 170, 171, 172, 173, 174, 175, 176, 177, 178, 179, 180, 181, 182, 183, 184, 185, 186, 187, 188, 189, 190, 191, 192, 193, 194, 195, 196, 214, 215, 216, 217, 218, 219, 220, 221, 222, 223, 224, 225, 226, 227, 228, 229, 230, 231, 232, 233, 234, 235, 236, 237, 238, 239, 240, 241, 242, 243, 244, 245, 246, 247, 248, 249, 250, 251, 252, 253, 254, 255, 256, 257, 258, 259, 260, 261, 262, 263, 264, 265, 266, 267, 268, 269, 270, 271, 272, 273, 274, 275, 276, 277, 278, 279, 280, 281, 282, 283, 284, 285, 286, 287, 288, 289, 290, 291, 292, 293, 294, 295, 296, 297, 298, 299, 300, 301, 302, 303, 304, 305, 306, 307, 308, 309, 310, 311, 312, 313, 314, 315, 316, 317, 318, 319, 320, 321, 322, 323, 324, 325, 326, 327, 328, 329, 330, 331, 332, 333, 334, 335, 336, 337, 338, 339, 340, 341, 342, 343, 344, 345, 346, 347, 348] (by decide +kernel) (by decide +kernel)
set_option maxRecDepth 20000 in
theorem gL_isAll_L_isThread : GoodIn wsL_isAll (va_wsS RL 35 yL_isThread wsL_isThread) := goodIn_app (goodIn_of _ (by decide +kernel)) ggL_isAll_L_isThread
set_option maxRecDepth 20000 in
theorem ggL_isAll_X8_thread : GoodIn wsL_isAll wsX8_thread := goodIn_r _ [269, 6, 7, 270, 271, 62, 4, 63, 12, 13, 14, 15, 16, 17, 18, 19, 20, 21, 22, 23, 24, 25, 26, 27, 28, 29, 30, 31, 32, 33, 34, 35, 36, 37, 38, 39, 40, 41, 42, 43, 44, 45, 46, 47, 48, 49, 50, 51, 52, 53, 54, 55, 56, 57, 58, 59, 60, 61, 64, 65, 66, 67, 68, 69, 70, 71, 72, 73, 74, 75, 76, 112, 113, 114, 115, 116, 117, 118, 119, 120, 121, 122, 123, 124, 125, 126, 127, 128, 129, 130, 131, 132, 133, 134, 135, 136, 137, 138, 139, 140, 141, 142, 143, 144, 145, 146, 147, 148, 149, 150, 151, 272, 273, 274, 275, 276, 277, 278, 279, 280, 281, 282, 283, 284, 285, 286, 287, 288, 289, 290, 291, 292, 186, 187, 188, 293, 294, 295, 296, 297, 298, 299, 300, 301, 302, 303, 304, 305, 306, 247, 248, 249, 307, 308, 309, 310, 311, 312, 313, 314, 315, 316, 317, 318, 319, 320, 321, 322, 323, 324, 325, 326, 327, 328, 329, 330, 331, 342, 343, 344, 345, 346, 347, 348] (by decide +kernel) (by decide +kernel)
set_option maxRecDepth 20000 in
theorem gL_isAll_X8_thread : GoodIn wsL_isAll (wsV RL 25 RX8 yX8_thread wsX8_thread) := goodIn_app (goodIn_of _ (by decide +kernel)) ggL_isAll_X8_thread
set_option maxRecDepth 20000 in
theorem ggL_isAll_X8_count : GoodIn wsL_isAll wsX8_count := goodIn_r _ [217, 7, 6, 8, 218, 219, 220, 30, 31, 32, 33, 34, 12, 13, 14, 15, 16, 17, 18, 19, 20, 21, 22, 23, 24, 25, 26, 27, 28, 29, 35, 36, 37, 38, 39, 40, 41, 42, 43, 44, 45, 46, 47, 48, 49, 50, 51, 52, 53, 54, 55, 56, 57, 58, 59, 60, 61, 62, 4, 63, 64, 65, 66, 67, 68, 69, 70, 71, 72, 73, 74, 75, 76, 221, 222, 223, 224, 225, 226, 227, 228, 229, 230, 231, 232, 97, 233, 234, 235, 236, 160, 88, 89, 90, 91, 92, 93, 94, 10, 11, 95, 96, 112, 113, 114, 115, 116, 117, 118, 119, 120, 121, 122, 123, 124, 125, 126, 127, 128, 129, 130, 131, 132, 133, 134, 135, 136, 137, 138, 139, 140, 141, 142, 143, 144, 145, 146, 147, 148, 149, 150, 151, 237, 238, 239, 240, 241, 157, 158, 159, 161, 162, 163, 164, 77, 78, 79, 80, 81, 82, 83, 84, 85, 86, 87, 98, 99, 100, 101, 102, 103, 104, 105, 106, 107, 108, 109, 110, 242, 243, 244, 245, 246, 247, 248, 249, 250, 251, 252, 253, 254, 255, 256, 257, 258, 259, 260, 261, 262, 263, 264, 265, 307, 308, 309, 310, 311, 312, 313, 314, 315, 316, 317, 318, 319, 320, 321, 322, 323, 324, 325, 326, 327, 328, 329, 330, 331, 332, 333, 334, 335, 336, 337, 338, 339, 340, 341] (by decide +kernel) (by decide +kernel)
set_option maxRecDepth 20000 in
theorem gL_isAll_X8_count : GoodIn wsL_isAll (wsV RL 21 RX8 yX8_count wsX8_count) := goodIn_app (goodIn_of _ (by decide +kernel)) ggL_isAll_X8_count
theorem dL_isAll_0 : decode cL_isAll 0 = .ok (.iconst 0, 1) := by decide +kernel
theorem dL_isAll_1 : decode cL_isAll 1 = .ok (.istore_n 1, 1) := by decide +kernel
theorem dL_isAll_2 : decode cL_isAll 2 = .ok (.iconst 0, 1) := by decide +kernel
theorem dL_isAll_3 : decode cL_isAll 3 = .ok (.istore_n 2, 1) := by decide +kernel
theorem dL_isAll_4 : decode cL_isAll 4 = .ok (.iconst 0, 1) := by decide +kernel
theorem dL_isAll_5 : decode cL_isAll 5 = .ok (.istore_n 3, 1) := by decide +kernel
theorem dL_isAll_6 : decode cL_isAll 6 = .ok (.iconst 0, 1) := by decide +kernel
theorem dL_isAll_7 : decode cL_isAll 7 = .ok (.istore 4, 2) := by decide +kernel
theorem dL_isAll_9 : decode cL_isAll 9 = .ok (.iconst 1, 1) := by decide +kernel
theorem dL_isAll_10 : decode cL_isAll 10 = .ok (.istore 5, 2) := by decide +kernel
theorem dL_isAll_12 : decode cL_isAll 12 = .ok (.iconst 0, 1) := by decide +kernel
theorem dL_isAll_13 : decode cL_isAll 13 = .ok (.istore 6, 2) := by decide +kernel
theorem dL_isAll_15 : decode cL_isAll 15 = .ok (.iload 6, 2) := by decide +kernel
theorem dL_isAll_17 : decode cL_isAll 17 = .ok (.bipush 16, 2) := by decide +kernel
theorem dL_isAll_19 : decode cL_isAll 19 = .ok (.if_icmp .ge 338, 3) := by decide +kernel
theorem dL_isAll_22 : decode cL_isAll 22 = .ok (.iload 5, 2) := by decide +kernel
theorem dL_isAll_24 : decode cL_isAll 24 = .ok (.ifCond .eq 333, 3) := by decide +kernel
theorem dL_isAll_27 : decode cL_isAll 27 = .ok (.aload_n 0, 1) := by decide +kernel
theorem dL_isAll_28 : decode cL_isAll 28 = .ok (.iload 6, 2) := by decide +kernel
theorem dL_isAll_30 : decode cL_isAll 30 = .ok (.iconst 0, 1) := by decide +kernel
theorem dL_isAll_31 : decode cL_isAll 31 = .ok (.invokevirtual 9, 3) := by decide +kernel
theorem dL_isAll_34 : decode cL_isAll 34 = .ok (.istore 7, 2) := by decide +kernel
theorem dL_isAll_36 : decode cL_isAll 36 = .ok (.iconst 0, 1) := by decide +kernel
theorem dL_isAll_37 : decode cL_isAll 37 = .ok (.istore 8, 2) := by decide +kernel
theorem dL_isAll_39 : decode cL_isAll 39 = .ok (.iconst 0, 1) := by decide +kernel
theorem dL_isAll_40 : decode cL_isAll 40 = .ok (.istore 9, 2) := by decide +kernel
theorem dL_isAll_42 : decode cL_isAll 42 = .ok (.iconst 0, 1) := by decide +kernel
theorem dL_isAll_43 : decode cL_isAll 43 = .ok (.istore 10, 2) := by decide +kernel
theorem dL_isAll_45 : decode cL_isAll 45 = .ok (.iload 10, 2) := by decide +kernel
theorem dL_isAll_47 : decode cL_isAll 47 = .ok (.iload 7, 2) := by decide +kernel
theorem dL_isAll_49 : decode cL_isAll 49 = .ok (.if_icmp .ge 122, 3) := by decide +kernel
theorem dL_isAll_52 : decode cL_isAll 52 = .ok (.iload 5, 2) := by decide +kernel
theorem dL_isAll_54 : decode cL_isAll 54 = .ok (.ifCond .eq 117, 3) := by decide +kernel
theorem dL_isAll_57 : decode cL_isAll 57 = .ok (.aload_n 0, 1) := by decide +kernel
theorem dL_isAll_58 : decode cL_isAll 58 = .ok (.iload 6, 2) := by decide +kernel
theorem dL_isAll_60 : decode cL_isAll 60 = .ok (.iload 10, 2) := by decide +kernel
theorem dL_isAll_62 : decode cL_isAll 62 = .ok (.invokevirtual 15, 3) := by decide +kernel
theorem dL_isAll_65 : decode cL_isAll 65 = .ok (.istore 11, 2) := by decide +kernel
theorem dL_isAll_67 : decode cL_isAll 67 = .ok (.aload_n 0, 1) := by decide +kernel
theorem dL_isAll_68 : decode cL_isAll 68 = .ok (.iload 11, 2) := by decide +kernel
theorem dL_isAll_70 : decode cL_isAll 70 = .ok (.iconst 5, 1) := by decide +kernel
theorem dL_isAll_71 : decode cL_isAll 71 = .ok (.invokevirtual 18, 3) := by decide +kernel
theorem dL_isAll_74 : decode cL_isAll 74 = .ok (.iload 6, 2) := by decide +kernel
theorem dL_isAll_76 : decode cL_isAll 76 = .ok (.if_icmp .ne 56, 3) := by decide +kernel
theorem dL_isAll_79 : decode cL_isAll 79 = .ok (.aload_n 0, 1) := by decide +kernel
theorem dL_isAll_80 : decode cL_isAll 80 = .ok (.iload 11, 2) := by decide +kernel
theorem dL_isAll_82 : decode cL_isAll 82 = .ok (.bipush 6, 2) := by decide +kernel
theorem dL_isAll_84 : decode cL_isAll 84 = .ok (.invokevirtual 18, 3) := by decide +kernel
theorem dL_isAll_87 : decode cL_isAll 87 = .ok (.iload 10, 2) := by decide +kernel
theorem dL_isAll_89 : decode cL_isAll 89 = .ok (.if_icmp .ne 43, 3) := by decide +kernel
theorem dL_isAll_92 : decode cL_isAll 92 = .ok (.aload_n 0, 1) := by decide +kernel
theorem dL_isAll_93 : decode cL_isAll 93 = .ok (.iload 11, 2) := by decide +kernel
theorem dL_isAll_95 : decode cL_isAll 95 = .ok (.bipush 8, 2) := by decide +kernel
theorem dL_isAll_97 : decode cL_isAll 97 = .ok (.invokevirtual 18, 3) := by decide +kernel
theorem dL_isAll_100 : decode cL_isAll 100 = .ok (.iload_n 1, 1) := by decide +kernel
theorem dL_isAll_101 : decode cL_isAll 101 = .ok (.if_icmp .ne 31, 3) := by decide +kernel
theorem dL_isAll_104 : decode cL_isAll 104 = .ok (.aload_n 0, 1) := by decide +kernel
theorem dL_isAll_105 : decode cL_isAll 105 = .ok (.iload 11, 2) := by decide +kernel
theorem dL_isAll_107 : decode cL_isAll 107 = .ok (.bipush 7, 2) := by decide +kernel
theorem dL_isAll_109 : decode cL_isAll 109 = .ok (.invokevirtual 18, 3) := by decide +kernel
theorem dL_isAll_112 : decode cL_isAll 112 = .ok (.ifCond .eq 16, 3) := by decide +kernel
theorem dL_isAll_115 : decode cL_isAll 115 = .ok (.aload_n 0, 1) := by decide +kernel
theorem dL_isAll_116 : decode cL_isAll 116 = .ok (.iload_n 3, 1) := by decide +kernel
theorem dL_isAll_117 : decode cL_isAll 117 = .ok (.iload 9, 2) := by decide +kernel
theorem dL_isAll_119 : decode cL_isAll 119 = .ok (.iadd, 1) := by decide +kernel
theorem dL_isAll_120 : decode cL_isAll 120 = .ok (.invokevirtual 28, 3) := by decide +kernel
theorem dL_isAll_123 : decode cL_isAll 123 = .ok (.iload 11, 2) := by decide +kernel
theorem dL_isAll_125 : decode cL_isAll 125 = .ok (.if_icmp .ne 7, 3) := by decide +kernel
theorem dL_isAll_128 : decode cL_isAll 128 = .ok (.iconst 1, 1) := by decide +kernel
theorem dL_isAll_129 : decode cL_isAll 129 = .ok (.goto 4, 3) := by decide +kernel
theorem dL_isAll_132 : decode cL_isAll 132 = .ok (.iconst 0, 1) := by decide +kernel
theorem dL_isAll_133 : decode cL_isAll 133 = .ok (.istore 5, 2) := by decide +kernel
theorem dL_isAll_135 : decode cL_isAll 135 = .ok (.iinc 1 1, 3) := by decide +kernel
theorem dL_isAll_138 : decode cL_isAll 138 = .ok (.iload 8, 2) := by decide +kernel
theorem dL_isAll_140 : decode cL_isAll 140 = .ok (.iconst 1, 1) := by decide +kernel
theorem dL_isAll_141 : decode cL_isAll 141 = .ok (.aload_n 0, 1) := by decide +kernel
theorem dL_isAll_142 : decode cL_isAll 142 = .ok (.iload 11, 2) := by decide +kernel
theorem dL_isAll_144 : decode cL_isAll 144 = .ok (.iconst 0, 1) := by decide +kernel
theorem dL_isAll_145 : decode cL_isAll 145 = .ok (.invokevirtual 18, 3) := by decide +kernel
theorem dL_isAll_148 : decode cL_isAll 148 = .ok (.ishl, 1) := by decide +kernel
theorem dL_isAll_149 : decode cL_isAll 149 = .ok (.ior, 1) := by decide +kernel
theorem dL_isAll_150 : decode cL_isAll 150 = .ok (.istore 8, 2) := by decide +kernel
theorem dL_isAll_152 : decode cL_isAll 152 = .ok (.iload 9, 2) := by decide +kernel
theorem dL_isAll_154 : decode cL_isAll 154 = .ok (.aload_n 0, 1) := by decide +kernel
theorem dL_isAll_155 : decode cL_isAll 155 = .ok (.iload 11, 2) := by decide +kernel
theorem dL_isAll_157 : decode cL_isAll 157 = .ok (.bipush 7, 2) := by decide +kernel
theorem dL_isAll_159 : decode cL_isAll 159 = .ok (.invokevirtual 18, 3) := by decide +kernel
theorem dL_isAll_162 : decode cL_isAll 162 = .ok (.iadd, 1) := by decide +kernel
theorem dL_isAll_163 : decode cL_isAll 163 = .ok (.istore 9, 2) := by decide +kernel
theorem dL_isAll_165 : decode cL_isAll 165 = .ok (.iinc 10 1, 3) := by decide +kernel
theorem dL_isAll_168 : decode cL_isAll 168 = .ok (.goto (-123), 3) := by decide +kernel
theorem dL_isAll_171 : decode cL_isAll 171 = .ok (.iload_n 3, 1) := by decide +kernel
theorem dL_isAll_172 : decode cL_isAll 172 = .ok (.iload 9, 2) := by decide +kernel
theorem dL_isAll_174 : decode cL_isAll 174 = .ok (.iadd, 1) := by decide +kernel
theorem dL_isAll_175 : decode cL_isAll 175 = .ok (.istore_n 3, 1) := by decide +kernel
theorem dL_isAll_176 : decode cL_isAll 176 = .ok (.iload_n 2, 1) := by decide +kernel
theorem dL_isAll_177 : decode cL_isAll 177 = .ok (.aload_n 0, 1) := by decide +kernel
theorem dL_isAll_178 : decode cL_isAll 178 = .ok (.iload 6, 2) := by decide +kernel
theorem dL_isAll_180 : decode cL_isAll 180 = .ok (.iconst 1, 1) := by decide +kernel
theorem dL_isAll_181 : decode cL_isAll 181 = .ok (.invokevirtual 9, 3) := by decide +kernel
theorem dL_isAll_184 : decode cL_isAll 184 = .ok (.iadd, 1) := by decide +kernel
theorem dL_isAll_185 : decode cL_isAll 185 = .ok (.istore_n 2, 1) := by decide +kernel
theorem dL_isAll_186 : decode cL_isAll 186 = .ok (.iload 4, 2) := by decide +kernel
theorem dL_isAll_188 : decode cL_isAll 188 = .ok (.iload 7, 2) := by decide +kernel
theorem dL_isAll_190 : decode cL_isAll 190 = .ok (.ifCond .le 7, 3) := by decide +kernel
theorem dL_isAll_193 : decode cL_isAll 193 = .ok (.iconst 1, 1) := by decide +kernel
theorem dL_isAll_194 : decode cL_isAll 194 = .ok (.goto 4, 3) := by decide +kernel
theorem dL_isAll_197 : decode cL_isAll 197 = .ok (.iconst 0, 1) := by decide +kernel
theorem dL_isAll_198 : decode cL_isAll 198 = .ok (.iadd, 1) := by decide +kernel
theorem dL_isAll_199 : decode cL_isAll 199 = .ok (.istore 4, 2) := by decide +kernel
theorem dL_isAll_201 : decode cL_isAll 201 = .ok (.iload 5, 2) := by decide +kernel
theorem dL_isAll_203 : decode cL_isAll 203 = .ok (.ifCond .eq 145, 3) := by decide +kernel
theorem dL_isAll_206 : decode cL_isAll 206 = .ok (.iload 7, 2) := by decide +kernel
theorem dL_isAll_208 : decode cL_isAll 208 = .ok (.bipush 6, 2) := by decide +kernel
theorem dL_isAll_210 : decode cL_isAll 210 = .ok (.if_icmp .gt 138, 3) := by decide +kernel
theorem dL_isAll_213 : decode cL_isAll 213 = .ok (.aload_n 0, 1) := by decide +kernel
theorem dL_isAll_214 : decode cL_isAll 214 = .ok (.iload 6, 2) := by decide +kernel
theorem dL_isAll_216 : decode cL_isAll 216 = .ok (.iload 7, 2) := by decide +kernel
theorem dL_isAll_218 : decode cL_isAll 218 = .ok (.invokevirtual 15, 3) := by decide +kernel
theorem dL_isAll_221 : decode cL_isAll 221 = .ok (.bipush (-5), 2) := by decide +kernel
theorem dL_isAll_223 : decode cL_isAll 223 = .ok (.if_icmp .ne 125, 3) := by decide +kernel
theorem dL_isAll_226 : decode cL_isAll 226 = .ok (.iload 8, 2) := by decide +kernel
theorem dL_isAll_228 : decode cL_isAll 228 = .ok (.aload_n 0, 1) := by decide +kernel
theorem dL_isAll_229 : decode cL_isAll 229 = .ok (.iload 6, 2) := by decide +kernel
theorem dL_isAll_231 : decode cL_isAll 231 = .ok (.iconst 2, 1) := by decide +kernel
theorem dL_isAll_232 : decode cL_isAll 232 = .ok (.invokevirtual 9, 3) := by decide +kernel
theorem dL_isAll_235 : decode cL_isAll 235 = .ok (.if_icmp .ne 113, 3) := by decide +kernel
theorem dL_isAll_238 : decode cL_isAll 238 = .ok (.iload 9, 2) := by decide +kernel
theorem dL_isAll_240 : decode cL_isAll 240 = .ok (.aload_n 0, 1) := by decide +kernel
theorem dL_isAll_241 : decode cL_isAll 241 = .ok (.iload 6, 2) := by decide +kernel
theorem dL_isAll_243 : decode cL_isAll 243 = .ok (.iconst 5, 1) := by decide +kernel
theorem dL_isAll_244 : decode cL_isAll 244 = .ok (.invokevirtual 9, 3) := by decide +kernel
theorem dL_isAll_247 : decode cL_isAll 247 = .ok (.if_icmp .ne 101, 3) := by decide +kernel
theorem dL_isAll_250 : decode cL_isAll 250 = .ok (.aload_n 0, 1) := by decide +kernel
theorem dL_isAll_251 : decode cL_isAll 251 = .ok (.iload 6, 2) := by decide +kernel
theorem dL_isAll_253 : decode cL_isAll 253 = .ok (.invokevirtual 31, 3) := by decide +kernel
theorem dL_isAll_256 : decode cL_isAll 256 = .ok (.fconst 0, 1) := by decide +kernel
theorem dL_isAll_257 : decode cL_isAll 257 = .ok (.fcmp .g, 1) := by decide +kernel
theorem dL_isAll_258 : decode cL_isAll 258 = .ok (.ifCond .ge 7, 3) := by decide +kernel
theorem dL_isAll_261 : decode cL_isAll 261 = .ok (.iconst 1, 1) := by decide +kernel
theorem dL_isAll_262 : decode cL_isAll 262 = .ok (.goto 4, 3) := by decide +kernel
theorem dL_isAll_265 : decode cL_isAll 265 = .ok (.iconst 0, 1) := by decide +kernel
theorem dL_isAll_266 : decode cL_isAll 266 = .ok (.iload 7, 2) := by decide +kernel
theorem dL_isAll_268 : decode cL_isAll 268 = .ok (.ifCond .ne 7, 3) := by decide +kernel
theorem dL_isAll_271 : decode cL_isAll 271 = .ok (.iconst 1, 1) := by decide +kernel
theorem dL_isAll_272 : decode cL_isAll 272 = .ok (.goto 4, 3) := by decide +kernel
theorem dL_isAll_275 : decode cL_isAll 275 = .ok (.iconst 0, 1) := by decide +kernel
theorem dL_isAll_276 : decode cL_isAll 276 = .ok (.if_icmp .ne 72, 3) := by decide +kernel
theorem dL_isAll_279 : decode cL_isAll 279 = .ok (.aload_n 0, 1) := by decide +kernel
theorem dL_isAll_280 : decode cL_isAll 280 = .ok (.iload 6, 2) := by decide +kernel
theorem dL_isAll_282 : decode cL_isAll 282 = .ok (.bipush 6, 2) := by decide +kernel
theorem dL_isAll_284 : decode cL_isAll 284 = .ok (.invokevirtual 9, 3) := by decide +kernel
theorem dL_isAll_287 : decode cL_isAll 287 = .ok (.ifCond .ne 7, 3) := by decide +kernel
theorem dL_isAll_290 : decode cL_isAll 290 = .ok (.iconst 1, 1) := by decide +kernel
theorem dL_isAll_291 : decode cL_isAll 291 = .ok (.goto 4, 3) := by decide +kernel
theorem dL_isAll_294 : decode cL_isAll 294 = .ok (.iconst 0, 1) := by decide +kernel
theorem dL_isAll_295 : decode cL_isAll 295 = .ok (.iload 7, 2) := by decide +kernel
theorem dL_isAll_297 : decode cL_isAll 297 = .ok (.ifCond .ne 7, 3) := by decide +kernel
theorem dL_isAll_300 : decode cL_isAll 300 = .ok (.iconst 1, 1) := by decide +kernel
theorem dL_isAll_301 : decode cL_isAll 301 = .ok (.goto 4, 3) := by decide +kernel
theorem dL_isAll_304 : decode cL_isAll 304 = .ok (.iconst 0, 1) := by decide +kernel
theorem dL_isAll_305 : decode cL_isAll 305 = .ok (.if_icmp .ne 43, 3) := by decide +kernel
theorem dL_isAll_308 : decode cL_isAll 308 = .ok (.aload_n 0, 1) := by decide +kernel
theorem dL_isAll_309 : decode cL_isAll 309 = .ok (.iload 6, 2) := by decide +kernel
theorem dL_isAll_311 : decode cL_isAll 311 = .ok (.iconst 4, 1) := by decide +kernel
theorem dL_isAll_312 : decode cL_isAll 312 = .ok (.invokevirtual 9, 3) := by decide +kernel
theorem dL_isAll_315 : decode cL_isAll 315 = .ok (.iconst 1, 1) := by decide +kernel
theorem dL_isAll_316 : decode cL_isAll 316 = .ok (.if_icmp .ne 7, 3) := by decide +kernel
theorem dL_isAll_319 : decode cL_isAll 319 = .ok (.iconst 1, 1) := by decide +kernel
theorem dL_isAll_320 : decode cL_isAll 320 = .ok (.goto 4, 3) := by decide +kernel
theorem dL_isAll_323 : decode cL_isAll 323 = .ok (.iconst 0, 1) := by decide +kernel
theorem dL_isAll_324 : decode cL_isAll 324 = .ok (.aload_n 0, 1) := by decide +kernel
theorem dL_isAll_325 : decode cL_isAll 325 = .ok (.iload 6, 2) := by decide +kernel
theorem dL_isAll_327 : decode cL_isAll 327 = .ok (.bipush 6, 2) := by decide +kernel
theorem dL_isAll_329 : decode cL_isAll 329 = .ok (.invokevirtual 9, 3) := by decide +kernel
theorem dL_isAll_332 : decode cL_isAll 332 = .ok (.iconst 1, 1) := by decide +kernel
theorem dL_isAll_333 : decode cL_isAll 333 = .ok (.if_icmp .le 7, 3) := by decide +kernel
theorem dL_isAll_336 : decode cL_isAll 336 = .ok (.iconst 1, 1) := by decide +kernel
theorem dL_isAll_337 : decode cL_isAll 337 = .ok (.goto 4, 3) := by decide +kernel
theorem dL_isAll_340 : decode cL_isAll 340 = .ok (.iconst 0, 1) := by decide +kernel
theorem dL_isAll_341 : decode cL_isAll 341 = .ok (.if_icmp .ne 7, 3) := by decide +kernel
theorem dL_isAll_344 : decode cL_isAll 344 = .ok (.iconst 1, 1) := by decide +kernel
theorem dL_isAll_345 : decode cL_isAll 345 = .ok (.goto 4, 3) := by decide +kernel
theorem dL_isAll_348 : decode cL_isAll 348 = .ok (.iconst 0, 1) := by decide +kernel
theorem dL_isAll_349 : decode cL_isAll 349 = .ok (.istore 5, 2) := by decide +kernel
theorem dL_isAll_351 : decode cL_isAll 351 = .ok (.iinc 6 1, 3) := by decide +kernel
theorem dL_isAll_354 : decode cL_isAll 354 = .ok (.goto (-339), 3) := by decide +kernel
theorem dL_isAll_357 : decode cL_isAll 357 = .ok (.iconst 0, 1) := by decide +kernel
theorem dL_isAll_358 : decode cL_isAll 358 = .ok (.istore 6, 2) := by decide +kernel
theorem dL_isAll_360 : decode cL_isAll 360 = .ok (.iconst 0, 1) := by decide +kernel
theorem dL_isAll_361 : decode cL_isAll 361 = .ok (.istore 7, 2) := by decide +kernel
theorem dL_isAll_363 : decode cL_isAll 363 = .ok (.iconst 0, 1) := by decide +kernel
theorem dL_isAll_364 : decode cL_isAll 364 = .ok (.istore 8, 2) := by decide +kernel
theorem dL_isAll_366 : decode cL_isAll 366 = .ok (.iload 8, 2) := by decide +kernel
theorem dL_isAll_368 : decode cL_isAll 368 = .ok (.bipush 6, 2) := by decide +kernel
theorem dL_isAll_370 : decode cL_isAll 370 = .ok (.if_icmp .ge 54, 3) := by decide +kernel
theorem dL_isAll_373 : decode cL_isAll 373 = .ok (.iload 5, 2) := by decide +kernel
theorem dL_isAll_375 : decode cL_isAll 375 = .ok (.ifCond .eq 49, 3) := by decide +kernel
theorem dL_isAll_378 : decode cL_isAll 378 = .ok (.aload_n 0, 1) := by decide +kernel
theorem dL_isAll_379 : decode cL_isAll 379 = .ok (.iload 8, 2) := by decide +kernel
theorem dL_isAll_381 : decode cL_isAll 381 = .ok (.invokestatic 35, 3) := by decide +kernel
theorem dL_isAll_384 : decode cL_isAll 384 = .ok (.istore 5, 2) := by decide +kernel
theorem dL_isAll_386 : decode cL_isAll 386 = .ok (.iload 6, 2) := by decide +kernel
theorem dL_isAll_388 : decode cL_isAll 388 = .ok (.aload_n 0, 1) := by decide +kernel
theorem dL_isAll_389 : decode cL_isAll 389 = .ok (.iload 8, 2) := by decide +kernel
theorem dL_isAll_391 : decode cL_isAll 391 = .ok (.iconst 3, 1) := by decide +kernel
theorem dL_isAll_392 : decode cL_isAll 392 = .ok (.invokevirtual 25, 3) := by decide +kernel
theorem dL_isAll_395 : decode cL_isAll 395 = .ok (.ifCond .ne 7, 3) := by decide +kernel
theorem dL_isAll_398 : decode cL_isAll 398 = .ok (.iconst 1, 1) := by decide +kernel
theorem dL_isAll_399 : decode cL_isAll 399 = .ok (.goto 4, 3) := by decide +kernel
theorem dL_isAll_402 : decode cL_isAll 402 = .ok (.iconst 0, 1) := by decide +kernel
theorem dL_isAll_403 : decode cL_isAll 403 = .ok (.iadd, 1) := by decide +kernel
theorem dL_isAll_404 : decode cL_isAll 404 = .ok (.istore 6, 2) := by decide +kernel
theorem dL_isAll_406 : decode cL_isAll 406 = .ok (.iload 7, 2) := by decide +kernel
theorem dL_isAll_408 : decode cL_isAll 408 = .ok (.aload_n 0, 1) := by decide +kernel
theorem dL_isAll_409 : decode cL_isAll 409 = .ok (.iload 8, 2) := by decide +kernel
theorem dL_isAll_411 : decode cL_isAll 411 = .ok (.iconst 1, 1) := by decide +kernel
theorem dL_isAll_412 : decode cL_isAll 412 = .ok (.invokevirtual 25, 3) := by decide +kernel
theorem dL_isAll_415 : decode cL_isAll 415 = .ok (.iadd, 1) := by decide +kernel
theorem dL_isAll_416 : decode cL_isAll 416 = .ok (.istore 7, 2) := by decide +kernel
theorem dL_isAll_418 : decode cL_isAll 418 = .ok (.iinc 8 1, 3) := by decide +kernel
theorem dL_isAll_421 : decode cL_isAll 421 = .ok (.goto (-55), 3) := by decide +kernel
theorem dL_isAll_424 : decode cL_isAll 424 = .ok (.iload 5, 2) := by decide +kernel
theorem dL_isAll_426 : decode cL_isAll 426 = .ok (.ifCond .eq 78, 3) := by decide +kernel
theorem dL_isAll_429 : decode cL_isAll 429 = .ok (.iload_n 1, 1) := by decide +kernel
theorem dL_isAll_430 : decode cL_isAll 430 = .ok (.aload_n 0, 1) := by decide +kernel
theorem dL_isAll_431 : decode cL_isAll 431 = .ok (.iconst 1, 1) := by decide +kernel
theorem dL_isAll_432 : decode cL_isAll 432 = .ok (.invokevirtual 21, 3) := by decide +kernel
theorem dL_isAll_435 : decode cL_isAll 435 = .ok (.if_icmp .ne 69, 3) := by decide +kernel
theorem dL_isAll_438 : decode cL_isAll 438 = .ok (.iload 4, 2) := by decide +kernel
theorem dL_isAll_440 : decode cL_isAll 440 = .ok (.aload_n 0, 1) := by decide +kernel
theorem dL_isAll_441 : decode cL_isAll 441 = .ok (.iconst 2, 1) := by decide +kernel
theorem dL_isAll_442 : decode cL_isAll 442 = .ok (.invokevirtual 21, 3) := by decide +kernel
theorem dL_isAll_445 : decode cL_isAll 445 = .ok (.if_icmp .ne 59, 3) := by decide +kernel
theorem dL_isAll_448 : decode cL_isAll 448 = .ok (.iload_n 3, 1) := by decide +kernel
theorem dL_isAll_449 : decode cL_isAll 449 = .ok (.aload_n 0, 1) := by decide +kernel
theorem dL_isAll_450 : decode cL_isAll 450 = .ok (.iconst 3, 1) := by decide +kernel
theorem dL_isAll_451 : decode cL_isAll 451 = .ok (.invokevirtual 21, 3) := by decide +kernel
theorem dL_isAll_454 : decode cL_isAll 454 = .ok (.if_icmp .ne 50, 3) := by decide +kernel
theorem dL_isAll_457 : decode cL_isAll 457 = .ok (.iload_n 2, 1) := by decide +kernel
theorem dL_isAll_458 : decode cL_isAll 458 = .ok (.aload_n 0, 1) := by decide +kernel
theorem dL_isAll_459 : decode cL_isAll 459 = .ok (.bipush 7, 2) := by decide +kernel
theorem dL_isAll_461 : decode cL_isAll 461 = .ok (.invokevirtual 21, 3) := by decide +kernel
theorem dL_isAll_464 : decode cL_isAll 464 = .ok (.if_icmp .ne 40, 3) := by decide +kernel
theorem dL_isAll_467 : decode cL_isAll 467 = .ok (.iload 6, 2) := by decide +kernel
theorem dL_isAll_469 : decode cL_isAll 469 = .ok (.aload_n 0, 1) := by decide +kernel
theorem dL_isAll_470 : decode cL_isAll 470 = .ok (.bipush 9, 2) := by decide +kernel
theorem dL_isAll_472 : decode cL_isAll 472 = .ok (.invokevirtual 21, 3) := by decide +kernel
theorem dL_isAll_475 : decode cL_isAll 475 = .ok (.if_icmp .ne 29, 3) := by decide +kernel
theorem dL_isAll_478 : decode cL_isAll 478 = .ok (.iload_n 1, 1) := by decide +kernel
theorem dL_isAll_479 : decode cL_isAll 479 = .ok (.iload 7, 2) := by decide +kernel
theorem dL_isAll_481 : decode cL_isAll 481 = .ok (.iadd, 1) := by decide +kernel
theorem dL_isAll_482 : decode cL_isAll 482 = .ok (.aload_n 0, 1) := by decide +kernel
theorem dL_isAll_483 : decode cL_isAll 483 = .ok (.iconst 0, 1) := by decide +kernel
theorem dL_isAll_484 : decode cL_isAll 484 = .ok (.invokevirtual 21, 3) := by decide +kernel
theorem dL_isAll_487 : decode cL_isAll 487 = .ok (.if_icmp .ne 17, 3) := by decide +kernel
theorem dL_isAll_490 : decode cL_isAll 490 = .ok (.aload_n 0, 1) := by decide +kernel
theorem dL_isAll_491 : decode cL_isAll 491 = .ok (.iload_n 3, 1) := by decide +kernel
theorem dL_isAll_492 : decode cL_isAll 492 = .ok (.invokevirtual 28, 3) := by decide +kernel
theorem dL_isAll_495 : decode cL_isAll 495 = .ok (.bipush (-5), 2) := by decide +kernel
theorem dL_isAll_497 : decode cL_isAll 497 = .ok (.if_icmp .ne 7, 3) := by decide +kernel
theorem dL_isAll_500 : decode cL_isAll 500 = .ok (.iconst 1, 1) := by decide +kernel
theorem dL_isAll_501 : decode cL_isAll 501 = .ok (.goto 4, 3) := by decide +kernel
theorem dL_isAll_504 : decode cL_isAll 504 = .ok (.iconst 0, 1) := by decide +kernel
theorem dL_isAll_505 : decode cL_isAll 505 = .ok (.ireturn, 1) := by decide +kernel
set_option maxRecDepth 20000 in
theorem ggL_pins_X8_card : GoodIn wsL_pins wsX8_card := goodIn_r _ [5, 6, 7, 8, 9, 10, 11, 12, 13, 14, 15, 16, 17, 18, 19, 20, 21, 22, 23, 24, 25, 26, 27, 28, 29, 30, 31, 32, 33, 34, 35, 36, 37, 38, 39, 40, 41, 42, 43, 44, 45, 46, 47, 48, 49, 50, 51, 52, 53, 54, 55, 56, 57, 58, 59, 60, 4, 61, 62, 63, 64, 65, 66, 67, 68, 69, 70, 71, 72, 73, 74, 75, 76, 77, 78, 79, 80, 81, 82, 83, 84, 85, 86, 87, 88, 89, 90, 91, 92, 93, 94, 95, 96, 97, 98, 99, 100, 101, 102, 103, 372, 373, 374, 375, 376, 377, 378, 379, 380, 381, 382, 383, 384, 385, 386, 387, 388, 389, 390, 391, 392, 393, 394, 395, 396] (by decide +kernel) (by decide +kernel)
set_option maxRecDepth 20000 in
theorem gL_pins_X8_card : GoodIn wsL_pins (wsV RL 18 RX8 yX8_card wsX8_card) := goodIn_app (goodIn_of _ (by decide +kernel)) ggL_pins_X8_card
set_option maxRecDepth 20000 in
theorem ggL_pins_X8_would : GoodIn wsL_pins wsX8_would := goodIn_r _ [107, 108, 7, 109, 110, 111, 4, 112, 6, 8, 9, 10, 11, 12, 13, 113, 114, 115, 116, 117, 118, 47, 119, 120, 121, 122, 123, 124, 125, 126, 45, 46, 48, 49, 127, 128, 129, 130, 131, 132, 133, 134, 135, 136, 137, 138, 139, 140, 141, 142, 143, 144, 145, 146, 147, 148, 149, 150, 151, 152, 153, 154, 155, 23, 24, 25, 26, 27, 28, 29, 30, 31, 32, 33, 34, 35, 36, 37, 38, 39, 40, 41, 42, 43, 44, 50, 51, 52, 53, 54, 55, 56, 57, 58, 59, 15, 16, 17, 18, 19, 20, 21, 22, 60, 61, 62, 63, 64, 65, 66, 67, 68, 69, 70, 71, 72, 73, 74, 14, 156, 157, 158, 159, 160, 161, 162, 163, 164, 165, 166, 167, 168, 169, 170, 171, 172, 173, 174, 175, 176, 177, 178, 80, 81, 82, 83, 84, 85, 86, 179, 180, 181, 182, 183, 184, 185, 186, 187, 188, 189, 190, 191, 192, 193, 194, 195, 196, 197, 88, 89, 90, 198, 199, 200, 201, 202, 203, 96, 97, 98, 204, 205, 206, 207, 208, 100, 101, 102, 209, 210, 211, 212, 213, 214, 215, 216, 217, 218, 219, 220, 221, 222, 223, 224, 372, 373, 374, 375, 376, 377, 378, 379, 380, 381, 382, 383, 384, 385, 396, 386, 387, 388, 389, 390, 391, 392, 393, 394, 395, 397, 398, 399, 400, 401, 402, 403] (by decide +kernel) (by decide +kernel)
set_option maxRecDepth 20000 in
theorem gL_pins_X8_would : GoodIn wsL_pins (wsV RL 41 RX8 yX8_would wsX8_would) := goodIn_app (goodIn_of _ (by decide +kernel)) ggL_pins_X8_would
set_option maxRecDepth 20000 in
theorem ggL_pins_X8_pin : GoodIn wsL_pins wsX8_pin := goodIn_r _ [228, 6, 229, 109, 110, 111, 4, 112, 8, 9, 10, 11, 12, 13, 113, 114, 115, 116, 117, 118, 47, 119, 120, 121, 122, 123, 124, 125, 126, 45, 46, 48, 49, 127, 128, 129, 130, 131, 132, 133, 134, 230, 187, 231, 232, 233, 234, 235, 236, 237, 238, 239, 240, 241, 242, 243, 244, 245, 41, 246, 247, 248, 43, 249, 145, 146, 147, 250, 251, 252, 253, 18, 254, 255, 141, 142, 143, 144, 148, 149, 150, 151, 152, 153, 154, 155, 256, 257, 258, 259, 14, 15, 16, 17, 19, 20, 21, 22, 260, 261, 262, 263, 7, 23, 24, 25, 26, 27, 28, 29, 30, 31, 32, 33, 34, 35, 36, 37, 38, 39, 40, 42, 44, 50, 51, 52, 53, 54, 55, 56, 57, 58, 59, 60, 61, 62, 63, 64, 65, 66, 67, 68, 69, 70, 71, 72, 73, 74, 192, 193, 194, 195, 196, 171, 172, 173, 197, 88, 89, 90, 83, 84, 85, 86, 198, 199, 200, 201, 202, 175, 176, 177, 203, 96, 97, 98, 204, 205, 206, 207, 208, 100, 101, 102, 209, 210, 211, 212, 372, 373, 374, 375, 376, 377, 378, 379, 380, 381, 382, 383, 384, 385, 396, 404, 405, 406, 386, 387, 388, 389, 390, 391, 392, 393, 394, 395] (by decide +kernel) (by decide +kernel)
set_option maxRecDepth 20000 in
theorem gL_pins_X8_pin : GoodIn wsL_pins (wsV RL 45 RX8 yX8_pin wsX8_pin) := goodIn_app (goodIn_of _ (by decide +kernel)) ggL_pins_X8_pin
set_option maxRecDepth 20000 in
theorem ggL_pins_X8_scene : GoodIn wsL_pins wsX8_scene := goodIn_r _ [267, 7, 6, 268, 113, 114, 4, 115, 23, 24, 25, 26, 27, 28, 29, 30, 31, 32, 33, 34, 35, 36, 11, 37, 13, 38, 39, 40, 41, 42, 43, 44, 45, 46, 47, 48, 49, 50, 9, 10, 12, 51, 52, 53, 54, 55, 56, 57, 58, 59, 15, 16, 17, 18, 19, 20, 21, 22, 60, 61, 62, 63, 64, 65, 66, 67, 68, 69, 70, 71, 72, 73, 74, 269, 270, 271, 272, 273, 274, 275, 276, 277, 278, 279, 117, 118, 119, 120, 121, 122, 123, 124, 125, 126, 280, 281, 282, 283, 284, 285, 286, 287, 288, 289, 290, 291, 292, 116, 192, 193, 194, 195, 196, 171, 172, 173, 197, 88, 89, 90, 83, 84, 85, 86, 198, 199, 200, 201, 202, 175, 176, 177, 203, 96, 97, 98, 204, 205, 206, 207, 208, 100, 101, 102, 209, 210, 211, 212, 293, 294, 295, 296, 297, 298, 299, 300, 301, 302, 303, 304, 305, 306, 307, 308, 309, 310, 372, 373, 374, 375, 376, 377, 378, 379, 380, 381, 382, 383, 386, 387, 388, 389, 390, 391, 392, 393, 394, 395, 384, 385, 396, 407, 408] (by decide +kernel) (by decide +kernel)
set_option maxRecDepth 20000 in
theorem gL_pins_X8_scene : GoodIn wsL_pins (wsV RL 9 RX8 yX8_scene wsX8_scene) := goodIn_app (goodIn_of _ (by decide +kernel)) ggL_pins_X8_scene
set_option maxRecDepth 20000 in
theorem ggL_pins_X8_thread : GoodIn wsL_pins wsX8_thread := goodIn_r _ [314, 7, 6, 139, 315, 60, 4, 61, 23, 24, 25, 26, 27, 28, 29, 30, 31, 32, 33, 34, 35, 36, 11, 37, 13, 38, 39, 40, 41, 42, 43, 44, 45, 46, 47, 48, 49, 50, 9, 10, 12, 51, 52, 53, 54, 55, 56, 57, 58, 59, 15, 16, 17, 18, 19, 20, 21, 22, 62, 63, 64, 65, 66, 67, 68, 69, 70, 71, 72, 73, 74, 192, 193, 194, 195, 196, 171, 172, 173, 197, 88, 89, 90, 83, 84, 85, 86, 198, 199, 200, 201, 202, 175, 176, 177, 203, 96, 97, 98, 204, 205, 206, 207, 208, 100, 101, 102, 209, 210, 211, 212, 316, 317, 318, 319, 156, 157, 158, 159, 160, 161, 162, 163, 164, 165, 166, 167, 168, 169, 170, 174, 178, 80, 81, 82, 179, 180, 181, 182, 183, 184, 185, 186, 320, 321, 322, 323, 324, 325, 326, 327, 328, 372, 373, 374, 375, 376, 377, 378, 379, 380, 381, 382, 383, 386, 387, 388, 389, 390, 391, 392, 393, 394, 395, 384, 385, 396, 397, 398, 399, 400, 401, 402, 403] (by decide +kernel) (by decide +kernel)
set_option maxRecDepth 20000 in
theorem gL_pins_X8_thread : GoodIn wsL_pins (wsV RL 25 RX8 yX8_thread wsX8_thread) := goodIn_app (goodIn_of _ (by decide +kernel)) ggL_pins_X8_thread
set_option maxRecDepth 20000 in
theorem ggL_pins_X8_count : GoodIn wsL_pins wsX8_count := goodIn_r _ [332, 6, 7, 268, 229, 333, 334, 39, 40, 41, 42, 43, 23, 24, 25, 26, 27, 28, 29, 30, 31, 32, 33, 34, 35, 36, 11, 37, 13, 38, 44, 45, 46, 47, 48, 49, 50, 9, 10, 12, 51, 52, 53, 54, 55, 56, 57, 58, 59, 15, 16, 17, 18, 19, 20, 21, 22, 60, 4, 61, 62, 63, 64, 65, 66, 67, 68, 69, 70, 71, 72, 73, 74, 335, 336, 337, 338, 339, 340, 341, 342, 343, 189, 190, 191, 126, 344, 345, 346, 347, 301, 117, 118, 119, 120, 121, 122, 123, 114, 115, 124, 125, 192, 193, 194, 195, 196, 171, 172, 173, 197, 88, 89, 90, 83, 84, 85, 86, 198, 199, 200, 201, 202, 175, 176, 177, 203, 96, 97, 98, 204, 205, 206, 207, 208, 100, 101, 102, 209, 210, 211, 212, 348, 349, 350, 351, 352, 298, 299, 300, 302, 303, 304, 305, 269, 270, 271, 272, 273, 274, 275, 276, 277, 278, 279, 280, 281, 282, 283, 284, 285, 286, 287, 288, 289, 290, 291, 292, 353, 354, 355, 356, 357, 326, 327, 328, 358, 359, 360, 361, 362, 363, 364, 234, 365, 236, 366, 367, 368, 369, 370, 371, 372, 373, 374, 375, 376, 377, 378, 379, 380, 381, 382, 383, 386, 387, 388, 389, 390, 391, 392, 393, 394, 395, 384, 385, 396, 407, 408, 404, 405, 406, 409, 410, 411, 412, 413] (by decide +kernel) (by decide +kernel)
set_option maxRecDepth 20000 in
theorem gL_pins_X8_count : GoodIn wsL_pins (wsV RL 21 RX8 yX8_count wsX8_count) := goodIn_app (goodIn_of _ (by decide +kernel)) ggL_pins_X8_count
theorem dL_pins_0 : decode cL_pins 0 = .ok (.aload_n 0, 1) := by decide +kernel
theorem dL_pins_1 : decode cL_pins 1 = .ok (.iload_n 1, 1) := by decide +kernel
theorem dL_pins_2 : decode cL_pins 2 = .ok (.iconst 5, 1) := by decide +kernel
theorem dL_pins_3 : decode cL_pins 3 = .ok (.invokevirtual 18, 3) := by decide +kernel
theorem dL_pins_6 : decode cL_pins 6 = .ok (.iload_n 2, 1) := by decide +kernel
theorem dL_pins_7 : decode cL_pins 7 = .ok (.if_icmp .ne 18, 3) := by decide +kernel
theorem dL_pins_10 : decode cL_pins 10 = .ok (.aload_n 0, 1) := by decide +kernel
theorem dL_pins_11 : decode cL_pins 11 = .ok (.iload_n 1, 1) := by decide +kernel
theorem dL_pins_12 : decode cL_pins 12 = .ok (.bipush 6, 2) := by decide +kernel
theorem dL_pins_14 : decode cL_pins 14 = .ok (.invokevirtual 18, 3) := by decide +kernel
theorem dL_pins_17 : decode cL_pins 17 = .ok (.iload_n 3, 1) := by decide +kernel
theorem dL_pins_18 : decode cL_pins 18 = .ok (.if_icmp .ne 7, 3) := by decide +kernel
theorem dL_pins_21 : decode cL_pins 21 = .ok (.iconst 1, 1) := by decide +kernel
theorem dL_pins_22 : decode cL_pins 22 = .ok (.goto 4, 3) := by decide +kernel
theorem dL_pins_25 : decode cL_pins 25 = .ok (.iconst 0, 1) := by decide +kernel
theorem dL_pins_26 : decode cL_pins 26 = .ok (.istore 4, 2) := by decide +kernel
theorem dL_pins_28 : decode cL_pins 28 = .ok (.aload_n 0, 1) := by decide +kernel
theorem dL_pins_29 : decode cL_pins 29 = .ok (.iload_n 1, 1) := by decide +kernel
theorem dL_pins_30 : decode cL_pins 30 = .ok (.iload_n 2, 1) := by decide +kernel
theorem dL_pins_31 : decode cL_pins 31 = .ok (.iload_n 3, 1) := by decide +kernel
theorem dL_pins_32 : decode cL_pins 32 = .ok (.invokevirtual 41, 3) := by decide +kernel
theorem dL_pins_35 : decode cL_pins 35 = .ok (.istore 5, 2) := by decide +kernel
theorem dL_pins_37 : decode cL_pins 37 = .ok (.aload_n 0, 1) := by decide +kernel
theorem dL_pins_38 : decode cL_pins 38 = .ok (.iload_n 1, 1) := by decide +kernel
theorem dL_pins_39 : decode cL_pins 39 = .ok (.iload_n 2, 1) := by decide +kernel
theorem dL_pins_40 : decode cL_pins 40 = .ok (.iload_n 3, 1) := by decide +kernel
theorem dL_pins_41 : decode cL_pins 41 = .ok (.invokevirtual 45, 3) := by decide +kernel
theorem dL_pins_44 : decode cL_pins 44 = .ok (.istore 6, 2) := by decide +kernel
theorem dL_pins_46 : decode cL_pins 46 = .ok (.iload 5, 2) := by decide +kernel
theorem dL_pins_48 : decode cL_pins 48 = .ok (.ifCond .ge 44, 3) := by decide +kernel
theorem dL_pins_51 : decode cL_pins 51 = .ok (.iload 6, 2) := by decide +kernel
theorem dL_pins_53 : decode cL_pins 53 = .ok (.iload 5, 2) := by decide +kernel
theorem dL_pins_55 : decode cL_pins 55 = .ok (.if_icmp .ne 35, 3) := by decide +kernel
theorem dL_pins_58 : decode cL_pins 58 = .ok (.iload 5, 2) := by decide +kernel
theorem dL_pins_60 : decode cL_pins 60 = .ok (.bipush (-3), 2) := by decide +kernel
theorem dL_pins_62 : decode cL_pins 62 = .ok (.if_icmp .ne 17, 3) := by decide +kernel
theorem dL_pins_65 : decode cL_pins 65 = .ok (.aload_n 0, 1) := by decide +kernel
theorem dL_pins_66 : decode cL_pins 66 = .ok (.iload_n 2, 1) := by decide +kernel
theorem dL_pins_67 : decode cL_pins 67 = .ok (.iconst 0, 1) := by decide +kernel
theorem dL_pins_68 : decode cL_pins 68 = .ok (.invokevirtual 9, 3) := by decide +kernel
theorem dL_pins_71 : decode cL_pins 71 = .ok (.bipush 6, 2) := by decide +kernel
theorem dL_pins_73 : decode cL_pins 73 = .ok (.if_icmp .ne 17, 3) := by decide +kernel
theorem dL_pins_76 : decode cL_pins 76 = .ok (.goto 10, 3) := by decide +kernel
theorem dL_pins_79 : decode cL_pins 79 = .ok (.iload 5, 2) := by decide +kernel
theorem dL_pins_81 : decode cL_pins 81 = .ok (.bipush (-2), 2) := by decide +kernel
theorem dL_pins_83 : decode cL_pins 83 = .ok (.if_icmp .ne 7, 3) := by decide +kernel
theorem dL_pins_86 : decode cL_pins 86 = .ok (.iconst 1, 1) := by decide +kernel
theorem dL_pins_87 : decode cL_pins 87 = .ok (.goto 4, 3) := by decide +kernel
theorem dL_pins_90 : decode cL_pins 90 = .ok (.iconst 0, 1) := by decide +kernel
theorem dL_pins_91 : decode cL_pins 91 = .ok (.ireturn, 1) := by decide +kernel
theorem dL_pins_92 : decode cL_pins 92 = .ok (.iload 6, 2) := by decide +kernel
theorem dL_pins_94 : decode cL_pins 94 = .ok (.iload 4, 2) := by decide +kernel
theorem dL_pins_96 : decode cL_pins 96 = .ok (.ifCond .eq 8, 3) := by decide +kernel
theorem dL_pins_99 : decode cL_pins 99 = .ok (.bipush (-5), 2) := by decide +kernel
theorem dL_pins_101 : decode cL_pins 101 = .ok (.goto 14, 3) := by decide +kernel
theorem dL_pins_104 : decode cL_pins 104 = .ok (.aload_n 0, 1) := by decide +kernel
theorem dL_pins_105 : decode cL_pins 105 = .ok (.aload_n 0, 1) := by decide +kernel
theorem dL_pins_106 : decode cL_pins 106 = .ok (.iload_n 1, 1) := by decide +kernel
theorem dL_pins_107 : decode cL_pins 107 = .ok (.iconst 0, 1) := by decide +kernel
theorem dL_pins_108 : decode cL_pins 108 = .ok (.invokevirtual 18, 3) := by decide +kernel
theorem dL_pins_111 : decode cL_pins 111 = .ok (.iconst 3, 1) := by decide +kernel
theorem dL_pins_112 : decode cL_pins 112 = .ok (.invokevirtual 25, 3) := by decide +kernel
theorem dL_pins_115 : decode cL_pins 115 = .ok (.if_icmp .ne 38, 3) := by decide +kernel
theorem dL_pins_118 : decode cL_pins 118 = .ok (.aload_n 0, 1) := by decide +kernel
theorem dL_pins_119 : decode cL_pins 119 = .ok (.iconst 3, 1) := by decide +kernel
theorem dL_pins_120 : decode cL_pins 120 = .ok (.invokevirtual 21, 3) := by decide +kernel
theorem dL_pins_123 : decode cL_pins 123 = .ok (.iload 5, 2) := by decide +kernel
theorem dL_pins_125 : decode cL_pins 125 = .ok (.if_icmp .ne 28, 3) := by decide +kernel
theorem dL_pins_128 : decode cL_pins 128 = .ok (.aload_n 0, 1) := by decide +kernel
theorem dL_pins_129 : decode cL_pins 129 = .ok (.iload_n 1, 1) := by decide +kernel
theorem dL_pins_130 : decode cL_pins 130 = .ok (.iconst 5, 1) := by decide +kernel
theorem dL_pins_131 : decode cL_pins 131 = .ok (.invokevirtual 18, 3) := by decide +kernel
theorem dL_pins_134 : decode cL_pins 134 = .ok (.iload_n 2, 1) := by decide +kernel
theorem dL_pins_135 : decode cL_pins 135 = .ok (.if_icmp .ne 18, 3) := by decide +kernel
theorem dL_pins_138 : decode cL_pins 138 = .ok (.aload_n 0, 1) := by decide +kernel
theorem dL_pins_139 : decode cL_pins 139 = .ok (.iload_n 1, 1) := by decide +kernel
theorem dL_pins_140 : decode cL_pins 140 = .ok (.bipush 6, 2) := by decide +kernel
theorem dL_pins_142 : decode cL_pins 142 = .ok (.invokevirtual 18, 3) := by decide +kernel
theorem dL_pins_145 : decode cL_pins 145 = .ok (.iload_n 3, 1) := by decide +kernel
theorem dL_pins_146 : decode cL_pins 146 = .ok (.if_icmp .ne 7, 3) := by decide +kernel
theorem dL_pins_149 : decode cL_pins 149 = .ok (.iconst 1, 1) := by decide +kernel
theorem dL_pins_150 : decode cL_pins 150 = .ok (.goto 4, 3) := by decide +kernel
theorem dL_pins_153 : decode cL_pins 153 = .ok (.iconst 0, 1) := by decide +kernel
theorem dL_pins_154 : decode cL_pins 154 = .ok (.ireturn, 1) := by decide +kernel
set_option maxRecDepth 20000 in
theorem ggL_acts_X8_count : GoodIn wsL_acts wsX8_count := goodIn_r _ [5, 6, 7, 8, 9, 10, 11, 12, 13, 14, 15, 16, 17, 18, 19, 20, 21, 22, 23, 24, 25, 26, 27, 28, 29, 30, 31, 32, 33, 34, 35, 36, 37, 38, 39, 40, 41, 42, 43, 44, 45, 46, 47, 48, 49, 50, 51, 52, 53, 54, 55, 56, 57, 58, 59, 60, 61, 62, 4, 63, 64, 65, 66, 67, 68, 69, 70, 71, 72, 73, 74, 75, 76, 77, 78, 79, 80, 81, 82, 83, 84, 85, 86, 87, 88, 89, 90, 91, 92, 93, 94, 95, 96, 97, 98, 99, 100, 101, 102, 103, 104, 105, 106, 107, 108, 109, 110, 111, 112, 113, 114, 115, 116, 117, 118, 119, 120, 121, 122, 123, 124, 125, 126, 127, 128, 129, 130, 131, 132, 133, 134, 135, 136, 137, 138, 139, 140, 141, 142, 143, 144, 145, 146, 147, 148, 149, 150, 151, 152, 153, 154, 155, 156, 157, 158, 159, 160, 161, 162, 163, 164, 165, 166, 167, 168, 169, 170, 171, 172, 173, 174, 175, 176, 177, 178, 179, 180, 181, 182, 183, 184, 185, 186, 187, 188, 189, 190, 191, 192, 193, 194, 195, 196, 197, 198, 199, 200, 201, 202, 203, 204, 205, 424, 425, 426, 427, 428, 429, 430, 431, 432, 433, 434, 435, 436, 437, 438, 439, 440, 441, 442, 443, 444, 445, 446, 447, 448, 449, 450, 451, 452, 453, 454, 455, 456, 457, 458] (by decide +kernel) (by decide +kernel)
set_option maxRecDepth 20000 in
theorem gL_acts_X8_count : GoodIn wsL_acts (wsV RL 21 RX8 yX8_count wsX8_count) := goodIn_app (goodIn_of _ (by decide +kernel)) ggL_acts_X8_count
set_option maxRecDepth 20000 in
theorem ggL_acts_L_pins : GoodIn wsL_acts wsL_pins := goodIn_r _ [209, 210, 211, 212, 4, 213, 6, 7, 214, 42, 43, 31, 44, 33, 215, 54, 55, 56, 57, 58, 59, 60, 61, 17, 18, 19, 20, 21, 22, 23, 24, 25, 26, 27, 28, 29, 30, 32, 34, 12, 13, 14, 15, 16, 35, 36, 37, 38, 39, 40, 41, 45, 46, 47, 48, 49, 50, 51, 52, 53, 62, 63, 64, 65, 66, 67, 68, 69, 70, 71, 72, 73, 74, 75, 76, 216, 217, 218, 219, 220, 221, 222, 223, 118, 119, 120, 121, 224, 115, 116, 117, 225, 226, 227, 228, 229, 131, 132, 133, 230, 139, 140, 141, 231, 232, 233, 234, 235, 236, 237, 238, 239, 240, 241, 102, 103, 242, 95, 96, 97, 98, 99, 100, 101, 104, 105, 89, 243, 244, 245, 246, 247, 248, 249, 250, 251, 252, 253, 254, 255, 256, 257, 258, 259, 260, 261, 262, 263, 264, 265, 266, 267, 268, 269, 270, 271, 272, 273, 274, 275, 276, 277, 278, 279, 280, 281, 282, 283, 284, 285, 286, 111, 112, 113, 287, 127, 128, 129, 288, 289, 290, 291, 292, 293, 294, 295, 296, 297, 298, 86, 87, 88, 106, 107, 108, 109, 110, 114, 122, 123, 124, 125, 126, 130, 134, 135, 136, 137, 138, 142, 143, 144, 145, 299, 300, 301, 302, 303, 304, 305, 306, 307, 308, 309, 310, 311, 312, 313, 314, 9, 315, 316, 317, 318, 197, 319, 199, 320, 321, 322, 323, 324, 325, 326, 327, 328, 329, 330, 331, 332, 333, 334, 335, 336, 337, 338, 339, 340, 341, 342, 343, 344, 345, 346, 347, 348, 349, 350, 8, 158, 159, 160, 161, 162, 163, 164, 165, 166, 167, 168, 169, 170, 171, 172, 173, 174, 175, 176, 177, 178, 179, 180, 181, 351, 352, 353, 354, 355, 151, 152, 153, 94, 154, 155, 156, 157, 356, 357, 358, 359, 360, 361, 362, 363, 364, 365, 366, 367, 368, 369, 370, 371, 372, 373, 374, 375, 187, 188, 189, 1, 2, 3, 5, 10, 11, 77, 78, 79, 80, 81, 82, 83, 84, 85, 90, 91, 92, 93, 146, 147, 148, 149, 150, 182, 183, 184, 185, 186, 190, 191, 192, 193, 194, 195, 196, 198, 200, 201, 202, 203, 204, 205, 424, 425, 426, 427, 428, 429, 430, 431, 432, 433, 434, 435, 446, 447, 436, 437, 438, 439, 440, 441, 442, 443, 444, 445, 448, 459, 460, 461, 462, 463, 464, 465, 451, 452, 453, 449, 450, 454, 455, 456, 457, 458] (by decide +kernel) (by decide +kernel)
set_option maxRecDepth 20000 in
theorem gL_acts_L_pins : GoodIn wsL_acts (va_wsS RL 48 yL_pins wsL_pins) := goodIn_app (goodIn_of _ (by decide +kernel)) ggL_acts_L_pins
set_option maxRecDepth 20000 in
theorem ggL_acts_X8_thread : GoodIn wsL_acts wsX8_thread := goodIn_r _ [364, 7, 6, 255, 365, 62, 4, 63, 17, 18, 19, 20, 21, 22, 23, 24, 25, 26, 27, 28, 29, 30, 31, 32, 33, 34, 12, 13, 14, 15, 16, 35, 36, 37, 38, 39, 40, 41, 42, 43, 44, 45, 46, 47, 48, 49, 50, 51, 52, 53, 54, 55, 56, 57, 58, 59, 60, 61, 64, 65, 66, 67, 68, 69, 70, 71, 72, 73, 74, 75, 76, 106, 107, 108, 109, 110, 111, 112, 113, 114, 115, 116, 117, 118, 119, 120, 121, 122, 123, 124, 125, 126, 127, 128, 129, 130, 131, 132, 133, 134, 135, 136, 137, 138, 139, 140, 141, 142, 143, 144, 145, 366, 367, 368, 369, 272, 273, 274, 275, 276, 277, 278, 279, 280, 281, 282, 283, 284, 285, 286, 287, 288, 221, 222, 223, 289, 290, 291, 292, 293, 294, 295, 296, 370, 371, 372, 373, 374, 375, 187, 188, 189, 424, 425, 426, 427, 428, 429, 430, 431, 432, 433, 434, 435, 436, 437, 438, 439, 440, 441, 442, 443, 444, 445, 446, 447, 448, 459, 460, 461, 462, 463, 464, 465] (by decide +kernel) (by decide +kernel)
set_option maxRecDepth 20000 in
theorem gL_acts_X8_thread : GoodIn wsL_acts (wsV RL 25 RX8 yX8_thread wsX8_thread) := goodIn_app (goodIn_of _ (by decide +kernel)) ggL_acts_X8_thread
set_option maxRecDepth 20000 in
theorem ggL_acts_X8_straighten : GoodIn wsL_acts wsX8_straighten := goodIn_r _ [379, 7, 6, 255, 9, 365, 62, 4, 63, 17, 18, 19, 20, 21, 22, 23, 24, 25, 26, 27, 28, 29, 30, 31, 32, 33, 34, 12, 13, 14, 15, 16, 35, 36, 37, 38, 39, 40, 41, 42, 43, 44, 45, 46, 47, 48, 49, 50, 51, 52, 53, 54, 55, 56, 57, 58, 59, 60, 61, 64, 65, 66, 67, 68, 69, 70, 71, 72, 73, 74, 75, 76, 272, 273, 274, 275, 276, 277, 278, 279, 280, 281, 282, 283, 284, 285, 286, 111, 112, 113, 287, 127, 128, 129, 288, 221, 222, 223, 118, 119, 120, 121, 289, 290, 291, 292, 293, 294, 295, 296, 380, 381, 382, 383, 384, 385, 386, 387, 388, 307, 308, 309, 310, 389, 390, 391, 392, 316, 317, 318, 197, 319, 199, 320, 321, 322, 323, 324, 325, 326, 327, 328, 329, 330, 331, 332, 261, 262, 263, 333, 334, 335, 336, 337, 338, 257, 258, 259, 260, 393, 394, 395, 396, 397, 269, 270, 271, 424, 425, 426, 427, 428, 429, 430, 431, 432, 433, 434, 435, 436, 437, 438, 439, 440, 441, 442, 443, 444, 445, 446, 447, 448, 459, 460, 461, 462, 463, 464, 465, 451, 452, 453] (by decide +kernel) (by decide +kernel)
set_option maxRecDepth 20000 in
theorem gL_acts_X8_straighten : GoodIn wsL_acts (wsV RL 52 RX8 yX8_straighten wsX8_straighten) := goodIn_app (goodIn_of _ (by decide +kernel)) ggL_acts_X8_straighten
set_option maxRecDepth 20000 in
theorem ggL_acts_X8_card : GoodIn wsL_acts wsX8_card := goodIn_r _ [213, 6, 7, 214, 42, 43, 31, 44, 33, 215, 54, 55, 56, 57, 58, 59, 60, 61, 17, 18, 19, 20, 21, 22, 23, 24, 25, 26, 27, 28, 29, 30, 32, 34, 12, 13, 14, 15, 16, 35, 36, 37, 38, 39, 40, 41, 45, 46, 47, 48, 49, 50, 51, 52, 53, 62, 4, 63, 64, 65, 66, 67, 68, 69, 70, 71, 72, 73, 74, 75, 76, 216, 217, 218, 219, 220, 221, 222, 223, 118, 119, 120, 121, 224, 115, 116, 117, 225, 226, 227, 228, 229, 131, 132, 133, 230, 139, 140, 141, 231, 424, 425, 426, 427, 428, 429, 430, 431, 432, 433, 434, 435, 446, 447, 436, 437, 438, 439, 440, 441, 442, 443, 444, 445, 448] (by decide +kernel) (by decide +kernel)
set_option maxRecDepth 20000 in
theorem gL_acts_X8_card : GoodIn wsL_acts (wsV RL 18 RX8 yX8_card wsX8_card) := goodIn_app (goodIn_of _ (by decide +kernel)) ggL_acts_X8_card
set_option maxRecDepth 20000 in
theorem ggL_acts_X8_swap : GoodIn wsL_acts wsX8_swap := goodIn_r _ [401, 6, 9, 214, 42, 43, 31, 44, 33, 315, 248, 249, 38, 250, 40, 89, 36, 37, 39, 316, 317, 318, 197, 319, 199, 320, 321, 322, 323, 324, 325, 326, 327, 328, 14, 329, 330, 331, 16, 332, 261, 262, 263, 333, 334, 335, 336, 57, 337, 338, 257, 258, 259, 260, 402, 403, 404, 405, 268, 269, 270, 271, 343, 344, 345, 4, 346, 7, 17, 18, 19, 20, 21, 22, 23, 24, 25, 26, 27, 28, 29, 30, 32, 34, 12, 13, 15, 35, 41, 45, 46, 47, 48, 49, 50, 51, 52, 53, 54, 55, 56, 58, 59, 60, 61, 62, 63, 64, 65, 66, 67, 68, 69, 70, 71, 72, 73, 74, 75, 76, 106, 107, 108, 109, 110, 111, 112, 113, 114, 115, 116, 117, 118, 119, 120, 121, 122, 123, 124, 125, 126, 127, 128, 129, 130, 131, 132, 133, 134, 135, 136, 137, 138, 139, 140, 141, 142, 143, 144, 145, 424, 425, 426, 427, 428, 429, 430, 431, 432, 433, 434, 435, 446, 447, 448, 451, 452, 453, 436, 437, 438, 439, 440, 441, 442, 443, 444, 445] (by decide +kernel) (by decide +kernel)
set_option maxRecDepth 20000 in
theorem gL_acts_X8_swap : GoodIn wsL_acts (wsV RL 55 RX8 yX8_swap wsX8_swap) := goodIn_app (goodIn_of _ (by decide +kernel)) ggL_acts_X8_swap
set_option maxRecDepth 20000 in
theorem ggL_acts_X8_best : GoodIn wsL_acts wsX8_best := goodIn_r _ [409, 6, 236, 214, 42, 43, 31, 44, 33, 251, 252, 253, 4, 254, 7, 255, 256, 257, 258, 38, 259, 40, 260, 261, 262, 263, 264, 265, 266, 267, 247, 248, 249, 250, 89, 36, 37, 39, 104, 105, 268, 269, 270, 271, 17, 18, 19, 20, 21, 22, 23, 24, 25, 26, 27, 28, 29, 30, 32, 34, 12, 13, 14, 15, 16, 35, 41, 45, 46, 47, 48, 49, 50, 51, 52, 53, 54, 55, 56, 57, 58, 59, 60, 61, 62, 63, 64, 65, 66, 67, 68, 69, 70, 71, 72, 73, 74, 75, 76, 215, 272, 273, 274, 275, 276, 277, 278, 279, 280, 281, 282, 283, 284, 285, 286, 111, 112, 113, 287, 127, 128, 129, 288, 221, 222, 223, 118, 119, 120, 121, 289, 290, 291, 292, 293, 294, 295, 296, 242, 95, 96, 97, 98, 99, 100, 101, 102, 103, 297, 298, 86, 87, 88, 299, 300, 301, 302, 303, 304, 305, 306, 307, 308, 309, 310, 424, 425, 426, 427, 428, 429, 430, 431, 432, 433, 434, 435, 446, 447, 448, 436, 437, 438, 439, 440, 441, 442, 443, 444, 445, 459, 460, 461, 462, 463, 464, 465] (by decide +kernel) (by decide +kernel)
set_option maxRecDepth 20000 in
theorem gL_acts_X8_best : GoodIn wsL_acts (wsV RL 58 RX8 yX8_best wsX8_best) := goodIn_app (goodIn_of _ (by decide +kernel)) ggL_acts_X8_best
set_option maxRecDepth 20000 in
theorem ggL_acts_X8_would : GoodIn wsL_acts wsX8_would := goodIn_r _ [235, 236, 7, 237, 238, 239, 4, 240, 6, 214, 42, 43, 31, 44, 33, 241, 102, 103, 242, 95, 96, 38, 97, 98, 99, 100, 101, 104, 105, 89, 36, 37, 39, 40, 243, 244, 245, 246, 247, 248, 249, 250, 251, 252, 253, 254, 255, 256, 257, 258, 259, 260, 261, 262, 263, 264, 265, 266, 267, 268, 269, 270, 271, 17, 18, 19, 20, 21, 22, 23, 24, 25, 26, 27, 28, 29, 30, 32, 34, 12, 13, 14, 15, 16, 35, 41, 45, 46, 47, 48, 49, 50, 51, 52, 53, 54, 55, 56, 57, 58, 59, 60, 61, 62, 63, 64, 65, 66, 67, 68, 69, 70, 71, 72, 73, 74, 75, 76, 215, 272, 273, 274, 275, 276, 277, 278, 279, 280, 281, 282, 283, 284, 285, 286, 111, 112, 113, 287, 127, 128, 129, 288, 221, 222, 223, 118, 119, 120, 121, 289, 290, 291, 292, 293, 294, 295, 296, 297, 298, 86, 87, 88, 106, 107, 108, 109, 110, 114, 115, 116, 117, 122, 123, 124, 125, 126, 130, 131, 132, 133, 134, 135, 136, 137, 138, 139, 140, 141, 142, 143, 144, 145, 299, 300, 301, 302, 303, 304, 305, 306, 307, 308, 309, 310, 424, 425, 426, 427, 428, 429, 430, 431, 432, 433, 434, 435, 446, 447, 448, 436, 437, 438, 439, 440, 441, 442, 443, 444, 445, 459, 460, 461, 462, 463, 464, 465] (by decide +kernel) (by decide +kernel)
set_option maxRecDepth 20000 in
theorem gL_acts_X8_would : GoodIn wsL_acts (wsV RL 41 RX8 yX8_would wsX8_would) := goodIn_app (goodIn_of _ (by decide +kernel)) ggL_acts_X8_would
set_option maxRecDepth 20000 in
theorem ggL_acts_X8_scene : GoodIn wsL_acts wsX8_scene := goodIn_r _ [350, 7, 6, 8, 241, 102, 4, 103, 17, 18, 19, 20, 21, 22, 23, 24, 25, 26, 27, 28, 29, 30, 31, 32, 33, 34, 12, 13, 14, 15, 16, 35, 36, 37, 38, 39, 40, 41, 42, 43, 44, 45, 46, 47, 48, 49, 50, 51, 52, 53, 54, 55, 56, 57, 58, 59, 60, 61, 62, 63, 64, 65, 66, 67, 68, 69, 70, 71, 72, 73, 74, 75, 76, 158, 159, 160, 161, 162, 163, 164, 165, 166, 167, 168, 95, 96, 97, 98, 99, 100, 101, 104, 105, 89, 169, 170, 171, 172, 173, 174, 175, 176, 177, 178, 179, 180, 181, 242, 106, 107, 108, 109, 110, 111, 112, 113, 114, 115, 116, 117, 118, 119, 120, 121, 122, 123, 124, 125, 126, 127, 128, 129, 130, 131, 132, 133, 134, 135, 136, 137, 138, 139, 140, 141, 142, 143, 144, 145, 351, 352, 353, 354, 355, 151, 152, 153, 94, 154, 155, 156, 157, 356, 357, 358, 359, 360, 424, 425, 426, 427, 428, 429, 430, 431, 432, 433, 434, 435, 436, 437, 438, 439, 440, 441, 442, 443, 444, 445, 446, 447, 448, 449, 450] (by decide +kernel) (by decide +kernel)
set_option maxRecDepth 20000 in
theorem gL_acts_X8_scene : GoodIn wsL_acts (wsV RL 9 RX8 yX8_scene wsX8_scene) := goodIn_app (goodIn_of _ (by decide +kernel)) ggL_acts_X8_scene
set_option maxRecDepth 20000 in
theorem ggL_acts_X8_unpin : GoodIn wsL_acts wsX8_unpin := goodIn_r _ [413, 6, 9, 214, 42, 43, 31, 44, 33, 315, 248, 249, 38, 250, 40, 89, 36, 37, 39, 316, 317, 318, 197, 319, 199, 320, 321, 322, 323, 324, 325, 326, 327, 328, 14, 329, 330, 331, 16, 332, 261, 262, 263, 333, 334, 335, 336, 57, 337, 338, 257, 258, 259, 260, 264, 265, 266, 267, 247, 104, 4, 105, 268, 269, 270, 271, 215, 54, 55, 56, 58, 59, 60, 61, 343, 344, 345, 346, 7, 17, 18, 19, 20, 21, 22, 23, 24, 25, 26, 27, 28, 29, 30, 32, 34, 12, 13, 15, 35, 41, 45, 46, 47, 48, 49, 50, 51, 52, 53, 62, 63, 64, 65, 66, 67, 68, 69, 70, 71, 72, 73, 74, 75, 76, 106, 107, 108, 109, 110, 111, 112, 113, 114, 115, 116, 117, 118, 119, 120, 121, 122, 123, 124, 125, 126, 127, 128, 129, 130, 131, 132, 133, 134, 135, 136, 137, 138, 139, 140, 141, 142, 143, 144, 145, 424, 425, 426, 427, 428, 429, 430, 431, 432, 433, 434, 435, 446, 447, 448, 451, 452, 453, 436, 437, 438, 439, 440, 441, 442, 443, 444, 445] (by decide +kernel) (by decide +kernel)
set_option maxRecDepth 20000 in
theorem gL_acts_X8_unpin : GoodIn wsL_acts (wsV RL 61 RX8 yX8_unpin wsX8_unpin) := goodIn_app (goodIn_of _ (by decide +kernel)) ggL_acts_X8_unpin
set_option maxRecDepth 20000 in
theorem ggL_acts_X8_change : GoodIn wsL_acts wsX8_change := goodIn_r _ [417, 6, 9, 214, 42, 43, 31, 44, 33, 418, 419, 4, 420, 421, 422, 215, 54, 55, 56, 57, 58, 59, 60, 61, 316, 317, 318, 197, 319, 199, 320, 321, 322, 323, 324, 325, 326, 327, 328, 14, 329, 330, 331, 16, 332, 261, 262, 263, 333, 334, 335, 336, 337, 338, 257, 258, 38, 259, 40, 260, 423, 74, 75, 76, 424, 425, 426, 427, 428, 429, 430, 431, 432, 433, 434, 435, 446, 447, 451, 452, 453, 448] (by decide +kernel) (by decide +kernel)
set_option maxRecDepth 20000 in
theorem gL_acts_X8_change : GoodIn wsL_acts (wsV RL 64 RX8 yX8_change wsX8_change) := goodIn_app (goodIn_of _ (by decide +kernel)) ggL_acts_X8_change
theorem dL_acts_0 : decode cL_acts 0 = .ok (.iload_n 1, 1) := by decide +kernel
theorem dL_acts_1 : decode cL_acts 1 = .ok (.iconst 4, 1) := by decide +kernel
theorem dL_acts_2 : decode cL_acts 2 = .ok (.ishr, 1) := by decide +kernel
theorem dL_acts_3 : decode cL_acts 3 = .ok (.aload_n 0, 1) := by decide +kernel
theorem dL_acts_4 : decode cL_acts 4 = .ok (.iconst 0, 1) := by decide +kernel
theorem dL_acts_5 : decode cL_acts 5 = .ok (.invokevirtual 21, 3) := by decide +kernel
theorem dL_acts_8 : decode cL_acts 8 = .ok (.irem, 1) := by decide +kernel
theorem dL_acts_9 : decode cL_acts 9 = .ok (.istore_n 2, 1) := by decide +kernel
theorem dL_acts_10 : decode cL_acts 10 = .ok (.iload_n 1, 1) := by decide +kernel
theorem dL_acts_11 : decode cL_acts 11 = .ok (.bipush 9, 2) := by decide +kernel
theorem dL_acts_13 : decode cL_acts 13 = .ok (.ishr, 1) := by decide +kernel
theorem dL_acts_14 : decode cL_acts 14 = .ok (.bipush 16, 2) := by decide +kernel
theorem dL_acts_16 : decode cL_acts 16 = .ok (.irem, 1) := by decide +kernel
theorem dL_acts_17 : decode cL_acts 17 = .ok (.istore_n 3, 1) := by decide +kernel
theorem dL_acts_18 : decode cL_acts 18 = .ok (.iload_n 1, 1) := by decide +kernel
theorem dL_acts_19 : decode cL_acts 19 = .ok (.bipush 8, 2) := by decide +kernel
theorem dL_acts_21 : decode cL_acts 21 = .ok (.irem, 1) := by decide +kernel
theorem dL_acts_22 : decode cL_acts 22 = .ok (.tableswitch 537 0 6 #[42, 42, 42, 56, 146, 272, 397], 42) := by decide +kernel
theorem dL_acts_64 : decode cL_acts 64 = .ok (.aload_n 0, 1) := by decide +kernel
theorem dL_acts_65 : decode cL_acts 65 = .ok (.iload_n 2, 1) := by decide +kernel
theorem dL_acts_66 : decode cL_acts 66 = .ok (.iload_n 3, 1) := by decide +kernel
theorem dL_acts_67 : decode cL_acts 67 = .ok (.iload_n 1, 1) := by decide +kernel
theorem dL_acts_68 : decode cL_acts 68 = .ok (.bipush 13, 2) := by decide +kernel
theorem dL_acts_70 : decode cL_acts 70 = .ok (.ishr, 1) := by decide +kernel
theorem dL_acts_71 : decode cL_acts 71 = .ok (.bipush 7, 2) := by decide +kernel
theorem dL_acts_73 : decode cL_acts 73 = .ok (.irem, 1) := by decide +kernel
theorem dL_acts_74 : decode cL_acts 74 = .ok (.invokestatic 48, 3) := by decide +kernel
theorem dL_acts_77 : decode cL_acts 77 = .ok (.ireturn, 1) := by decide +kernel
theorem dL_acts_78 : decode cL_acts 78 = .ok (.iload_n 1, 1) := by decide +kernel
theorem dL_acts_79 : decode cL_acts 79 = .ok (.iconst 4, 1) := by decide +kernel
theorem dL_acts_80 : decode cL_acts 80 = .ok (.ishr, 1) := by decide +kernel
theorem dL_acts_81 : decode cL_acts 81 = .ok (.bipush 6, 2) := by decide +kernel
theorem dL_acts_83 : decode cL_acts 83 = .ok (.irem, 1) := by decide +kernel
theorem dL_acts_84 : decode cL_acts 84 = .ok (.istore 4, 2) := by decide +kernel
theorem dL_acts_86 : decode cL_acts 86 = .ok (.aload_n 0, 1) := by decide +kernel
theorem dL_acts_87 : decode cL_acts 87 = .ok (.iload 4, 2) := by decide +kernel
theorem dL_acts_89 : decode cL_acts 89 = .ok (.iconst 4, 1) := by decide +kernel
theorem dL_acts_90 : decode cL_acts 90 = .ok (.invokevirtual 25, 3) := by decide +kernel
theorem dL_acts_93 : decode cL_acts 93 = .ok (.istore 5, 2) := by decide +kernel
theorem dL_acts_95 : decode cL_acts 95 = .ok (.aload_n 0, 1) := by decide +kernel
theorem dL_acts_96 : decode cL_acts 96 = .ok (.iload 4, 2) := by decide +kernel
theorem dL_acts_98 : decode cL_acts 98 = .ok (.invokevirtual 52, 3) := by decide +kernel
theorem dL_acts_101 : decode cL_acts 101 = .ok (.istore 6, 2) := by decide +kernel
theorem dL_acts_103 : decode cL_acts 103 = .ok (.aload_n 0, 1) := by decide +kernel
theorem dL_acts_104 : decode cL_acts 104 = .ok (.iload 4, 2) := by decide +kernel
theorem dL_acts_106 : decode cL_acts 106 = .ok (.iconst 3, 1) := by decide +kernel
theorem dL_acts_107 : decode cL_acts 107 = .ok (.invokevirtual 25, 3) := by decide +kernel
theorem dL_acts_110 : decode cL_acts 110 = .ok (.ifCond .ne 56, 3) := by decide +kernel
theorem dL_acts_113 : decode cL_acts 113 = .ok (.aload_n 0, 1) := by decide +kernel
theorem dL_acts_114 : decode cL_acts 114 = .ok (.iload 4, 2) := by decide +kernel
theorem dL_acts_116 : decode cL_acts 116 = .ok (.iconst 4, 1) := by decide +kernel
theorem dL_acts_117 : decode cL_acts 117 = .ok (.invokevirtual 25, 3) := by decide +kernel
theorem dL_acts_120 : decode cL_acts 120 = .ok (.ifCond .ne 46, 3) := by decide +kernel
theorem dL_acts_123 : decode cL_acts 123 = .ok (.iload 6, 2) := by decide +kernel
theorem dL_acts_125 : decode cL_acts 125 = .ok (.bipush (-5), 2) := by decide +kernel
theorem dL_acts_127 : decode cL_acts 127 = .ok (.if_icmp .ne 11, 3) := by decide +kernel
theorem dL_acts_130 : decode cL_acts 130 = .ok (.iload 5, 2) := by decide +kernel
theorem dL_acts_132 : decode cL_acts 132 = .ok (.ifCond .ne 34, 3) := by decide +kernel
theorem dL_acts_135 : decode cL_acts 135 = .ok (.goto 16, 3) := by decide +kernel
theorem dL_acts_138 : decode cL_acts 138 = .ok (.iload 6, 2) := by decide +kernel
theorem dL_acts_140 : decode cL_acts 140 = .ok (.iload 5, 2) := by decide +kernel
theorem dL_acts_142 : decode cL_acts 142 = .ok (.if_icmp .lt 24, 3) := by decide +kernel
theorem dL_acts_145 : decode cL_acts 145 = .ok (.iload 6, 2) := by decide +kernel
theorem dL_acts_147 : decode cL_acts 147 = .ok (.iconst 1, 1) := by decide +kernel
theorem dL_acts_148 : decode cL_acts 148 = .ok (.if_icmp .le 18, 3) := by decide +kernel
theorem dL_acts_151 : decode cL_acts 151 = .ok (.aload_n 0, 1) := by decide +kernel
theorem dL_acts_152 : decode cL_acts 152 = .ok (.iload 4, 2) := by decide +kernel
theorem dL_acts_154 : decode cL_acts 154 = .ok (.invokevirtual 52, 3) := by decide +kernel
theorem dL_acts_157 : decode cL_acts 157 = .ok (.bipush (-5), 2) := by decide +kernel
theorem dL_acts_159 : decode cL_acts 159 = .ok (.if_icmp .ne 7, 3) := by decide +kernel
theorem dL_acts_162 : decode cL_acts 162 = .ok (.iconst 1, 1) := by decide +kernel
theorem dL_acts_163 : decode cL_acts 163 = .ok (.goto 4, 3) := by decide +kernel
theorem dL_acts_166 : decode cL_acts 166 = .ok (.iconst 0, 1) := by decide +kernel
theorem dL_acts_167 : decode cL_acts 167 = .ok (.ireturn, 1) := by decide +kernel
theorem dL_acts_168 : decode cL_acts 168 = .ok (.iload_n 1, 1) := by decide +kernel
theorem dL_acts_169 : decode cL_acts 169 = .ok (.bipush 9, 2) := by decide +kernel
theorem dL_acts_171 : decode cL_acts 171 = .ok (.ishr, 1) := by decide +kernel
theorem dL_acts_172 : decode cL_acts 172 = .ok (.aload_n 0, 1) := by decide +kernel
theorem dL_acts_173 : decode cL_acts 173 = .ok (.iconst 0, 1) := by decide +kernel
theorem dL_acts_174 : decode cL_acts 174 = .ok (.invokevirtual 21, 3) := by decide +kernel
theorem dL_acts_177 : decode cL_acts 177 = .ok (.irem, 1) := by decide +kernel
theorem dL_acts_178 : decode cL_acts 178 = .ok (.istore 7, 2) := by decide +kernel
theorem dL_acts_180 : decode cL_acts 180 = .ok (.aload_n 0, 1) := by decide +kernel
theorem dL_acts_181 : decode cL_acts 181 = .ok (.iload_n 2, 1) := by decide +kernel
theorem dL_acts_182 : decode cL_acts 182 = .ok (.iconst 5, 1) := by decide +kernel
theorem dL_acts_183 : decode cL_acts 183 = .ok (.invokevirtual 18, 3) := by decide +kernel
theorem dL_acts_186 : decode cL_acts 186 = .ok (.ifCond .lt 17, 3) := by decide +kernel
theorem dL_acts_189 : decode cL_acts 189 = .ok (.aload_n 0, 1) := by decide +kernel
theorem dL_acts_190 : decode cL_acts 190 = .ok (.iload 7, 2) := by decide +kernel
theorem dL_acts_192 : decode cL_acts 192 = .ok (.iconst 5, 1) := by decide +kernel
theorem dL_acts_193 : decode cL_acts 193 = .ok (.invokevirtual 18, 3) := by decide +kernel
theorem dL_acts_196 : decode cL_acts 196 = .ok (.ifCond .lt 7, 3) := by decide +kernel
theorem dL_acts_199 : decode cL_acts 199 = .ok (.iconst 1, 1) := by decide +kernel
theorem dL_acts_200 : decode cL_acts 200 = .ok (.goto 4, 3) := by decide +kernel
theorem dL_acts_203 : decode cL_acts 203 = .ok (.iconst 0, 1) := by decide +kernel
theorem dL_acts_204 : decode cL_acts 204 = .ok (.istore 8, 2) := by decide +kernel
theorem dL_acts_206 : decode cL_acts 206 = .ok (.aload_n 0, 1) := by decide +kernel
theorem dL_acts_207 : decode cL_acts 207 = .ok (.iload_n 2, 1) := by decide +kernel
theorem dL_acts_208 : decode cL_acts 208 = .ok (.bipush 8, 2) := by decide +kernel
theorem dL_acts_210 : decode cL_acts 210 = .ok (.invokevirtual 18, 3) := by decide +kernel
theorem dL_acts_213 : decode cL_acts 213 = .ok (.istore 9, 2) := by decide +kernel
theorem dL_acts_215 : decode cL_acts 215 = .ok (.aload_n 0, 1) := by decide +kernel
theorem dL_acts_216 : decode cL_acts 216 = .ok (.iload_n 2, 1) := by decide +kernel
theorem dL_acts_217 : decode cL_acts 217 = .ok (.iload 7, 2) := by decide +kernel
theorem dL_acts_219 : decode cL_acts 219 = .ok (.invokevirtual 55, 3) := by decide +kernel
theorem dL_acts_222 : decode cL_acts 222 = .ok (.istore 10, 2) := by decide +kernel
theorem dL_acts_224 : decode cL_acts 224 = .ok (.iload_n 2, 1) := by decide +kernel
theorem dL_acts_225 : decode cL_acts 225 = .ok (.iload 7, 2) := by decide +kernel
theorem dL_acts_227 : decode cL_acts 227 = .ok (.if_icmp .ne 18, 3) := by decide +kernel
theorem dL_acts_230 : decode cL_acts 230 = .ok (.iload 10, 2) := by decide +kernel
theorem dL_acts_232 : decode cL_acts 232 = .ok (.bipush (-2), 2) := by decide +kernel
theorem dL_acts_234 : decode cL_acts 234 = .ok (.if_icmp .ne 7, 3) := by decide +kernel
theorem dL_acts_237 : decode cL_acts 237 = .ok (.iconst 1, 1) := by decide +kernel
theorem dL_acts_238 : decode cL_acts 238 = .ok (.goto 55, 3) := by decide +kernel
theorem dL_acts_241 : decode cL_acts 241 = .ok (.iconst 0, 1) := by decide +kernel
theorem dL_acts_242 : decode cL_acts 242 = .ok (.goto 51, 3) := by decide +kernel
theorem dL_acts_245 : decode cL_acts 245 = .ok (.iload 8, 2) := by decide +kernel
theorem dL_acts_247 : decode cL_acts 247 = .ok (.ifCond .ne 18, 3) := by decide +kernel
theorem dL_acts_250 : decode cL_acts 250 = .ok (.iload 10, 2) := by decide +kernel
theorem dL_acts_252 : decode cL_acts 252 = .ok (.bipush (-4), 2) := by decide +kernel
theorem dL_acts_254 : decode cL_acts 254 = .ok (.if_icmp .ne 7, 3) := by decide +kernel
theorem dL_acts_257 : decode cL_acts 257 = .ok (.iconst 1, 1) := by decide +kernel
theorem dL_acts_258 : decode cL_acts 258 = .ok (.goto 35, 3) := by decide +kernel
theorem dL_acts_261 : decode cL_acts 261 = .ok (.iconst 0, 1) := by decide +kernel
theorem dL_acts_262 : decode cL_acts 262 = .ok (.goto 31, 3) := by decide +kernel
theorem dL_acts_265 : decode cL_acts 265 = .ok (.iload 10, 2) := by decide +kernel
theorem dL_acts_267 : decode cL_acts 267 = .ok (.aload_n 0, 1) := by decide +kernel
theorem dL_acts_268 : decode cL_acts 268 = .ok (.iconst 3, 1) := by decide +kernel
theorem dL_acts_269 : decode cL_acts 269 = .ok (.invokevirtual 21, 3) := by decide +kernel
theorem dL_acts_272 : decode cL_acts 272 = .ok (.if_icmp .ne 20, 3) := by decide +kernel
theorem dL_acts_275 : decode cL_acts 275 = .ok (.aload_n 0, 1) := by decide +kernel
theorem dL_acts_276 : decode cL_acts 276 = .ok (.iload 7, 2) := by decide +kernel
theorem dL_acts_278 : decode cL_acts 278 = .ok (.bipush 8, 2) := by decide +kernel
theorem dL_acts_280 : decode cL_acts 280 = .ok (.invokevirtual 18, 3) := by decide +kernel
theorem dL_acts_283 : decode cL_acts 283 = .ok (.iload 9, 2) := by decide +kernel
theorem dL_acts_285 : decode cL_acts 285 = .ok (.if_icmp .ne 7, 3) := by decide +kernel
theorem dL_acts_288 : decode cL_acts 288 = .ok (.iconst 1, 1) := by decide +kernel
theorem dL_acts_289 : decode cL_acts 289 = .ok (.goto 4, 3) := by decide +kernel
theorem dL_acts_292 : decode cL_acts 292 = .ok (.iconst 0, 1) := by decide +kernel
theorem dL_acts_293 : decode cL_acts 293 = .ok (.ireturn, 1) := by decide +kernel
theorem dL_acts_294 : decode cL_acts 294 = .ok (.aload_n 0, 1) := by decide +kernel
theorem dL_acts_295 : decode cL_acts 295 = .ok (.iload_n 2, 1) := by decide +kernel
theorem dL_acts_296 : decode cL_acts 296 = .ok (.invokevirtual 58, 3) := by decide +kernel
theorem dL_acts_299 : decode cL_acts 299 = .ok (.istore 11, 2) := by decide +kernel
theorem dL_acts_301 : decode cL_acts 301 = .ok (.aload_n 0, 1) := by decide +kernel
theorem dL_acts_302 : decode cL_acts 302 = .ok (.iload_n 2, 1) := by decide +kernel
theorem dL_acts_303 : decode cL_acts 303 = .ok (.iload 11, 2) := by decide +kernel
theorem dL_acts_305 : decode cL_acts 305 = .ok (.bipush 10, 2) := by decide +kernel
theorem dL_acts_307 : decode cL_acts 307 = .ok (.idiv, 1) := by decide +kernel
theorem dL_acts_308 : decode cL_acts 308 = .ok (.iload 11, 2) := by decide +kernel
theorem dL_acts_310 : decode cL_acts 310 = .ok (.bipush 10, 2) := by decide +kernel
theorem dL_acts_312 : decode cL_acts 312 = .ok (.irem, 1) := by decide +kernel
theorem dL_acts_313 : decode cL_acts 313 = .ok (.invokevirtual 41, 3) := by decide +kernel
theorem dL_acts_316 : decode cL_acts 316 = .ok (.istore 12, 2) := by decide +kernel
theorem dL_acts_318 : decode cL_acts 318 = .ok (.iload 12, 2) := by decide +kernel
theorem dL_acts_320 : decode cL_acts 320 = .ok (.aload_n 0, 1) := by decide +kernel
theorem dL_acts_321 : decode cL_acts 321 = .ok (.iconst 3, 1) := by decide +kernel
theorem dL_acts_322 : decode cL_acts 322 = .ok (.invokevirtual 21, 3) := by decide +kernel
theorem dL_acts_325 : decode cL_acts 325 = .ok (.aload_n 0, 1) := by decide +kernel
theorem dL_acts_326 : decode cL_acts 326 = .ok (.iload_n 2, 1) := by decide +kernel
theorem dL_acts_327 : decode cL_acts 327 = .ok (.iconst 5, 1) := by decide +kernel
theorem dL_acts_328 : decode cL_acts 328 = .ok (.invokevirtual 18, 3) := by decide +kernel
theorem dL_acts_331 : decode cL_acts 331 = .ok (.ifCond .ge 8, 3) := by decide +kernel
theorem dL_acts_334 : decode cL_acts 334 = .ok (.bipush 40, 2) := by decide +kernel
theorem dL_acts_336 : decode cL_acts 336 = .ok (.goto 4, 3) := by decide +kernel
theorem dL_acts_339 : decode cL_acts 339 = .ok (.iconst 0, 1) := by decide +kernel
theorem dL_acts_340 : decode cL_acts 340 = .ok (.iadd, 1) := by decide +kernel
theorem dL_acts_341 : decode cL_acts 341 = .ok (.if_icmp .gt 76, 3) := by decide +kernel
