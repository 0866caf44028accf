theorem dL_pins_0 : decode cL_pins 0 = .ok (.aload_n 0, 1) := by decide +kernel
theorem dL_pins_1 : decode cL_pins 1 = .ok (.iload_n 1, 1) := by decide +kernel
theorem dL_pins_2 : decode cL_pins 2 = .ok (.iconst 5, 1) := by decide +kernel
theorem dL_pins_3 : decode cL_pins 3 = .ok (.invokevirtual 18, 3) := by decide +kernel
theorem dL_pins_6 : decode cL_pins 6 = .ok (.iload_n 2, 1) := by decide +kernel
theorem dL_pins_7 : decode cL_pins 7 = .ok (.if_icmp .ne 18, 3) := by decide +kernel
theorem dL_pins_10 : decode cL_pins 10 = .ok (.aload_n 0, 1) := by decide +kernel
theorem dL_pins_11 : decode cL_pins 11 = .ok (.iload_n 1, 1) := by decide +kernel
theorem dL_pins_12 : decode cL_pins 12 = .ok (.bipush 6, 2) := by decide +kernel
theorem dL_pins_14 : decode cL_pins 14 = .ok (.invokevirtual 18, 3) := by decide +kernel
theorem dL_pins_17 : decode cL_pins 17 = .ok (.iload_n 3, 1) := by decide +kernel
theorem dL_pins_18 : decode cL_pins 18 = .ok (.if_icmp .ne 7, 3) := by decide +kernel
theorem dL_pins_21 : decode cL_pins 21 = .ok (.iconst 1, 1) := by decide +kernel
theorem dL_pins_22 : decode cL_pins 22 = .ok (.goto 4, 3) := by decide +kernel
theorem dL_pins_25 : decode cL_pins 25 = .ok (.iconst 0, 1) := by decide +kernel
theorem dL_pins_26 : decode cL_pins 26 = .ok (.istore 4, 2) := by decide +kernel
theorem dL_pins_28 : decode cL_pins 28 = .ok (.aload_n 0, 1) := by decide +kernel
theorem dL_pins_29 : decode cL_pins 29 = .ok (.iload_n 1, 1) := by decide +kernel
theorem dL_pins_30 : decode cL_pins 30 = .ok (.iload_n 2, 1) := by decide +kernel
theorem dL_pins_31 : decode cL_pins 31 = .ok (.iload_n 3, 1) := by decide +kernel
theorem dL_pins_32 : decode cL_pins 32 = .ok (.invokevirtual 41, 3) := by decide +kernel
theorem dL_pins_35 : decode cL_pins 35 = .ok (.istore 5, 2) := by decide +kernel
theorem dL_pins_37 : decode cL_pins 37 = .ok (.aload_n 0, 1) := by decide +kernel
theorem dL_pins_38 : decode cL_pins 38 = .ok (.iload_n 1, 1) := by decide +kernel
theorem dL_pins_39 : decode cL_pins 39 = .ok (.iload_n 2, 1) := by decide +kernel
theorem dL_pins_40 : decode cL_pins 40 = .ok (.iload_n 3, 1) := by decide +kernel
theorem dL_pins_41 : decode cL_pins 41 = .ok (.invokevirtual 45, 3) := by decide +kernel
theorem dL_pins_44 : decode cL_pins 44 = .ok (.istore 6, 2) := by decide +kernel
theorem dL_pins_46 : decode cL_pins 46 = .ok (.iload 5, 2) := by decide +kernel
theorem dL_pins_48 : decode cL_pins 48 = .ok (.ifCond .ge 44, 3) := by decide +kernel
theorem dL_pins_51 : decode cL_pins 51 = .ok (.iload 6, 2) := by decide +kernel
theorem dL_pins_53 : decode cL_pins 53 = .ok (.iload 5, 2) := by decide +kernel
theorem dL_pins_55 : decode cL_pins 55 = .ok (.if_icmp .ne 35, 3) := by decide +kernel
theorem dL_pins_58 : decode cL_pins 58 = .ok (.iload 5, 2) := by decide +kernel
theorem dL_pins_60 : decode cL_pins 60 = .ok (.bipush (-3), 2) := by decide +kernel
theorem dL_pins_62 : decode cL_pins 62 = .ok (.if_icmp .ne 17, 3) := by decide +kernel
theorem dL_pins_65 : decode cL_pins 65 = .ok (.aload_n 0, 1) := by decide +kernel
theorem dL_pins_66 : decode cL_pins 66 = .ok (.iload_n 2, 1) := by decide +kernel
theorem dL_pins_67 : decode cL_pins 67 = .ok (.iconst 0, 1) := by decide +kernel
theorem dL_pins_68 : decode cL_pins 68 = .ok (.invokevirtual 9, 3) := by decide +kernel
theorem dL_pins_71 : decode cL_pins 71 = .ok (.bipush 6, 2) := by decide +kernel
theorem dL_pins_73 : decode cL_pins 73 = .ok (.if_icmp .ne 17, 3) := by decide +kernel
theorem dL_pins_76 : decode cL_pins 76 = .ok (.goto 10, 3) := by decide +kernel
theorem dL_pins_79 : decode cL_pins 79 = .ok (.iload 5, 2) := by decide +kernel
theorem dL_pins_81 : decode cL_pins 81 = .ok (.bipush (-2), 2) := by decide +kernel
theorem dL_pins_83 : decode cL_pins 83 = .ok (.if_icmp .ne 7, 3) := by decide +kernel
theorem dL_pins_86 : decode cL_pins 86 = .ok (.iconst 1, 1) := by decide +kernel
theorem dL_pins_87 : decode cL_pins 87 = .ok (.goto 4, 3) := by decide +kernel
theorem dL_pins_90 : decode cL_pins 90 = .ok (.iconst 0, 1) := by decide +kernel
theorem dL_pins_91 : decode cL_pins 91 = .ok (.ireturn, 1) := by decide +kernel
theorem dL_pins_92 : decode cL_pins 92 = .ok (.iload 6, 2) := by decide +kernel
theorem dL_pins_94 : decode cL_pins 94 = .ok (.iload 4, 2) := by decide +kernel
theorem dL_pins_96 : decode cL_pins 96 = .ok (.ifCond .eq 8, 3) := by decide +kernel
theorem dL_pins_99 : decode cL_pins 99 = .ok (.bipush (-5), 2) := by decide +kernel
theorem dL_pins_101 : decode cL_pins 101 = .ok (.goto 14, 3) := by decide +kernel
theorem dL_pins_104 : decode cL_pins 104 = .ok (.aload_n 0, 1) := by decide +kernel
theorem dL_pins_105 : decode cL_pins 105 = .ok (.aload_n 0, 1) := by decide +kernel
theorem dL_pins_106 : decode cL_pins 106 = .ok (.iload_n 1, 1) := by decide +kernel
theorem dL_pins_107 : decode cL_pins 107 = .ok (.iconst 0, 1) := by decide +kernel
theorem dL_pins_108 : decode cL_pins 108 = .ok (.invokevirtual 18, 3) := by decide +kernel
theorem dL_pins_111 : decode cL_pins 111 = .ok (.iconst 3, 1) := by decide +kernel
theorem dL_pins_112 : decode cL_pins 112 = .ok (.invokevirtual 25, 3) := by decide +kernel
theorem dL_pins_115 : decode cL_pins 115 = .ok (.if_icmp .ne 38, 3) := by decide +kernel
theorem dL_pins_118 : decode cL_pins 118 = .ok (.aload_n 0, 1) := by decide +kernel
theorem dL_pins_119 : decode cL_pins 119 = .ok (.iconst 3, 1) := by decide +kernel
theorem dL_pins_120 : decode cL_pins 120 = .ok (.invokevirtual 21, 3) := by decide +kernel
theorem dL_pins_123 : decode cL_pins 123 = .ok (.iload 5, 2) := by decide +kernel
theorem dL_pins_125 : decode cL_pins 125 = .ok (.if_icmp .ne 28, 3) := by decide +kernel
theorem dL_pins_128 : decode cL_pins 128 = .ok (.aload_n 0, 1) := by decide +kernel
theorem dL_pins_129 : decode cL_pins 129 = .ok (.iload_n 1, 1) := by decide +kernel
theorem dL_pins_130 : decode cL_pins 130 = .ok (.iconst 5, 1) := by decide +kernel
theorem dL_pins_131 : decode cL_pins 131 = .ok (.invokevirtual 18, 3) := by decide +kernel
theorem dL_pins_134 : decode cL_pins 134 = .ok (.iload_n 2, 1) := by decide +kernel
theorem dL_pins_135 : decode cL_pins 135 = .ok (.if_icmp .ne 18, 3) := by decide +kernel
theorem dL_pins_138 : decode cL_pins 138 = .ok (.aload_n 0, 1) := by decide +kernel
theorem dL_pins_139 : decode cL_pins 139 = .ok (.iload_n 1, 1) := by decide +kernel
theorem dL_pins_140 : decode cL_pins 140 = .ok (.bipush 6, 2) := by decide +kernel
theorem dL_pins_142 : decode cL_pins 142 = .ok (.invokevirtual 18, 3) := by decide +kernel
theorem dL_pins_145 : decode cL_pins 145 = .ok (.iload_n 3, 1) := by decide +kernel
theorem dL_pins_146 : decode cL_pins 146 = .ok (.if_icmp .ne 7, 3) := by decide +kernel
theorem dL_pins_149 : decode cL_pins 149 = .ok (.iconst 1, 1) := by decide +kernel
theorem dL_pins_150 : decode cL_pins 150 = .ok (.goto 4, 3) := by decide +kernel
theorem dL_pins_153 : decode cL_pins 153 = .ok (.iconst 0, 1) := by decide +kernel
theorem dL_pins_154 : decode cL_pins 154 = .ok (.ireturn, 1) := by decide +kernel
set_option maxRecDepth 20000 in
theorem ggL_acts_X8_count_p0 : GoodIn wsL_acts [.code yX8_count cX8_count 2 (some .int)] := goodIn_r _ [5] (by decide +kernel) (by decide +kernel)
set_option maxRecDepth 20000 in
theorem ggL_acts_X8_count_p1 : GoodIn wsL_acts wsX8_count_r1 := goodIn_r _ [6, 7, 8, 9, 10, 11, 12, 13, 14, 15, 16, 17, 18, 19, 20, 21, 22, 23, 24, 25, 26, 27, 28, 29] (by decide +kernel) (by decide +kernel)
set_option maxRecDepth 20000 in
theorem ggL_acts_X8_count_p2 : GoodIn wsL_acts wsX8_count_r2 := goodIn_r _ [30, 31, 32, 33, 34, 35, 36, 37, 38, 39, 40, 41, 42, 43, 44, 45, 46, 47, 48, 49, 50, 51, 52, 53] (by decide +kernel) (by decide +kernel)
set_option maxRecDepth 20000 in
theorem ggL_acts_X8_count_p3 : GoodIn wsL_acts wsX8_count_r3 := goodIn_r _ [54, 55, 56, 57, 58, 59, 60, 61, 62, 4, 63, 64, 65, 66, 67, 68, 69, 70, 71, 72, 73, 74, 75, 76] (by decide +kernel) (by decide +kernel)
set_option maxRecDepth 20000 in
theorem ggL_acts_X8_count_p4 : GoodIn wsL_acts wsX8_count_r4 := goodIn_r _ [77, 78, 79, 80, 81, 82, 83, 84, 85, 86, 87, 88, 89, 90, 91, 92, 93, 94, 95, 96, 97, 98, 99, 100] (by decide +kernel) (by decide +kernel)
set_option maxRecDepth 20000 in
theorem ggL_acts_X8_count_p5 : GoodIn wsL_acts wsX8_count_r5 := goodIn_r _ [101, 102, 103, 104, 105, 106, 107, 108, 109, 110, 111, 112, 113, 114, 115, 116, 117, 118, 119, 120, 121, 122, 123, 124] (by decide +kernel) (by decide +kernel)
set_option maxRecDepth 20000 in
theorem ggL_acts_X8_count_p6 : GoodIn wsL_acts wsX8_count_r6 := goodIn_r _ [125, 126, 127, 128, 129, 130, 131, 132, 133, 134, 135, 136, 137, 138, 139, 140, 141, 142, 143, 144, 145, 146, 147, 148] (by decide +kernel) (by decide +kernel)
set_option maxRecDepth 20000 in
theorem ggL_acts_X8_count_p7 : GoodIn wsL_acts wsX8_count_r7 := goodIn_r _ [149, 150, 151, 152, 153, 154, 155, 156, 157, 158, 159, 160, 161, 162, 163, 164, 165, 166, 167, 168, 169, 170, 171, 172] (by decide +kernel) (by decide +kernel)
set_option maxRecDepth 20000 in
theorem ggL_acts_X8_count_p8 : GoodIn wsL_acts wsX8_count_r8 := goodIn_r _ [173, 174, 175, 176, 177, 178, 179, 180, 181, 182, 183, 184, 185, 186, 187, 188, 189, 190, 191, 192, 193, 194, 195, 196] (by decide +kernel) (by decide +kernel)
set_option maxRecDepth 20000 in
theorem ggL_acts_X8_count_p9 : GoodIn wsL_acts wsX8_count_r9 := goodIn_r _ [197, 198, 199, 200, 201, 202, 203, 204, 205] (by decide +kernel) (by decide +kernel)
set_option maxRecDepth 20000 in
theorem ggL_acts_X8_count_p10 : GoodIn wsL_acts wsX80 := goodIn_r _ [424, 425, 426, 427, 428, 429, 430, 431, 432] (by decide +kernel) (by decide +kernel)
set_option maxRecDepth 20000 in
theorem ggL_acts_X8_count_p11 : GoodIn wsL_acts wsX40 := goodIn_r _ [433, 434, 435] (by decide +kernel) (by decide +kernel)
set_option maxRecDepth 20000 in
theorem ggL_acts_X8_count_p12 : GoodIn wsL_acts wsX30 := goodIn_r _ [436, 437, 438, 439, 440, 441, 442, 443, 444, 445] (by decide +kernel) (by decide +kernel)
set_option maxRecDepth 20000 in
theorem ggL_acts_X8_count_p13 : GoodIn wsL_acts wsX10 := goodIn_r _ [446, 447] (by decide +kernel) (by decide +kernel)
set_option maxRecDepth 20000 in
theorem ggL_acts_X8_count_p14 : GoodIn wsL_acts wsX70 := goodIn_r _ [448] (by decide +kernel) (by decide +kernel)
set_option maxRecDepth 20000 in
theorem ggL_acts_X8_count_p15 : GoodIn wsL_acts wsX60 := goodIn_r _ [449, 450] (by decide +kernel) (by decide +kernel)
set_option maxRecDepth 20000 in
theorem ggL_acts_X8_count_p16 : GoodIn wsL_acts wsX20 := goodIn_r _ [451, 452, 453] (by decide +kernel) (by decide +kernel)
set_option maxRecDepth 20000 in
theorem ggL_acts_X8_count_p17 : GoodIn wsL_acts wsX00 := goodIn_r _ [454, 455, 456, 457, 458] (by decide +kernel) (by decide +kernel)
set_option maxRecDepth 20000 in
theorem ggL_acts_X8_count : GoodIn wsL_acts wsX8_count := by
  unfold GoodIn wsX8_count
  exact List.forall_mem_cons.mpr ⟨ggL_acts_X8_count_p0 _ (List.mem_singleton.mpr rfl), List.forall_mem_append.mpr ⟨List.forall_mem_append.mpr ⟨List.forall_mem_append.mpr ⟨List.forall_mem_append.mpr ⟨List.forall_mem_append.mpr ⟨List.forall_mem_append.mpr ⟨List.forall_mem_append.mpr ⟨List.forall_mem_append.mpr ⟨List.forall_mem_append.mpr ⟨ggL_acts_X8_count_p1, List.forall_mem_append.mpr ⟨ggL_acts_X8_count_p2, List.forall_mem_append.mpr ⟨ggL_acts_X8_count_p3, List.forall_mem_append.mpr ⟨ggL_acts_X8_count_p4, List.forall_mem_append.mpr ⟨ggL_acts_X8_count_p5, List.forall_mem_append.mpr ⟨ggL_acts_X8_count_p6, List.forall_mem_append.mpr ⟨ggL_acts_X8_count_p7, List.forall_mem_append.mpr ⟨ggL_acts_X8_count_p8, ggL_acts_X8_count_p9⟩⟩⟩⟩⟩⟩⟩⟩, ggL_acts_X8_count_p10⟩, ggL_acts_X8_count_p11⟩, ggL_acts_X8_count_p12⟩, ggL_acts_X8_count_p13⟩, ggL_acts_X8_count_p14⟩, ggL_acts_X8_count_p15⟩, ggL_acts_X8_count_p16⟩, ggL_acts_X8_count_p17⟩⟩
set_option maxRecDepth 20000 in
theorem gL_acts_X8_count : GoodIn wsL_acts (wsV RL 21 RX8 yX8_count wsX8_count) := goodIn_app (goodIn_of _ (by decide +kernel)) ggL_acts_X8_count
set_option maxRecDepth 20000 in
theorem ggL_acts_L_pins_p0 : GoodIn wsL_acts [.code yL_pins cL_pins 7 (some .boolean)] := goodIn_r _ [209] (by decide +kernel) (by decide +kernel)
set_option maxRecDepth 20000 in
theorem ggL_acts_L_pins_p1 : GoodIn wsL_acts wsL_pins_r1 := goodIn_r _ [210, 211, 212, 4, 213, 6, 7, 214, 42, 43, 31, 44, 33, 215, 54, 55, 56, 57, 58, 59, 60, 61, 17, 18] (by decide +kernel) (by decide +kernel)
set_option maxRecDepth 20000 in
theorem ggL_acts_L_pins_p2 : GoodIn wsL_acts wsL_pins_r2 := goodIn_r _ [19, 20, 21, 22, 23, 24, 25, 26, 27, 28, 29, 30, 32, 34, 12, 13, 14, 15, 16, 35, 36, 37, 38, 39] (by decide +kernel) (by decide +kernel)
set_option maxRecDepth 20000 in
theorem ggL_acts_L_pins_p3 : GoodIn wsL_acts wsL_pins_r3 := goodIn_r _ [40, 41, 45, 46, 47, 48, 49, 50, 51, 52, 53, 62, 63, 64, 65, 66, 67, 68, 69, 70, 71, 72, 73, 74] (by decide +kernel) (by decide +kernel)
set_option maxRecDepth 20000 in
theorem ggL_acts_L_pins_p4 : GoodIn wsL_acts wsL_pins_r4 := goodIn_r _ [75, 76, 216, 217, 218, 219, 220, 221, 222, 223, 118, 119, 120, 121, 224, 115, 116, 117, 225, 226, 227, 228, 229, 131] (by decide +kernel) (by decide +kernel)
set_option maxRecDepth 20000 in
theorem ggL_acts_L_pins_p5 : GoodIn wsL_acts wsL_pins_r5 := goodIn_r _ [132, 133, 230, 139, 140, 141, 231, 232, 233, 234, 235, 236, 237, 238, 239, 240, 241, 102, 103, 242, 95, 96, 97, 98] (by decide +kernel) (by decide +kernel)
set_option maxRecDepth 20000 in
theorem ggL_acts_L_pins_p6 : GoodIn wsL_acts wsL_pins_r6 := goodIn_r _ [99, 100, 101, 104, 105, 89, 243, 244, 245, 246, 247, 248, 249, 250, 251, 252, 253, 254, 255, 256, 257, 258, 259, 260] (by decide +kernel) (by decide +kernel)
set_option maxRecDepth 20000 in
theorem ggL_acts_L_pins_p7 : GoodIn wsL_acts wsL_pins_r7 := goodIn_r _ [261, 262, 263, 264, 265, 266, 267, 268, 269, 270, 271, 272, 273, 274, 275, 276, 277, 278, 279, 280, 281, 282, 283, 284] (by decide +kernel) (by decide +kernel)
set_option maxRecDepth 20000 in
theorem ggL_acts_L_pins_p8 : GoodIn wsL_acts wsL_pins_r8 := goodIn_r _ [285, 286, 111, 112, 113, 287, 127, 128, 129, 288, 289, 290, 291, 292, 293, 294, 295, 296, 297, 298, 86, 87, 88, 106] (by decide +kernel) (by decide +kernel)
set_option maxRecDepth 20000 in
theorem ggL_acts_L_pins_p9 : GoodIn wsL_acts wsL_pins_r9 := goodIn_r _ [107, 108, 109, 110, 114, 122, 123, 124, 125, 126, 130, 134, 135, 136, 137, 138, 142, 143, 144, 145, 299, 300, 301, 302] (by decide +kernel) (by decide +kernel)
set_option maxRecDepth 20000 in
theorem ggL_acts_L_pins_p10 : GoodIn wsL_acts wsL_pins_r10 := goodIn_r _ [303, 304, 305, 306, 307, 308, 309, 310, 311, 312, 313, 314, 9, 315, 316, 317, 318, 197, 319, 199, 320, 321, 322, 323] (by decide +kernel) (by decide +kernel)
set_option maxRecDepth 20000 in
theorem ggL_acts_L_pins_p11 : GoodIn wsL_acts wsL_pins_r11 := goodIn_r _ [324, 325, 326, 327, 328, 329, 330, 331, 332, 333, 334, 335, 336, 337, 338, 339, 340, 341, 342, 343, 344, 345, 346, 347] (by decide +kernel) (by decide +kernel)
set_option maxRecDepth 20000 in
theorem ggL_acts_L_pins_p12 : GoodIn wsL_acts wsL_pins_r12 := goodIn_r _ [348, 349, 350, 8, 158, 159, 160, 161, 162, 163, 164, 165, 166, 167, 168, 169, 170, 171, 172, 173, 174, 175, 176, 177] (by decide +kernel) (by decide +kernel)
set_option maxRecDepth 20000 in
theorem ggL_acts_L_pins_p13 : GoodIn wsL_acts wsL_pins_r13 := goodIn_r _ [178, 179, 180, 181, 351, 352, 353, 354, 355, 151, 152, 153, 94, 154, 155, 156, 157, 356, 357, 358, 359, 360, 361, 362] (by decide +kernel) (by decide +kernel)
set_option maxRecDepth 20000 in
theorem ggL_acts_L_pins_p14 : GoodIn wsL_acts wsL_pins_r14 := goodIn_r _ [363, 364, 365, 366, 367, 368, 369, 370, 371, 372, 373, 374, 375, 187, 188, 189, 1, 2, 3, 5, 10, 11, 77, 78] (by decide +kernel) (by decide +kernel)
set_option maxRecDepth 20000 in
theorem ggL_acts_L_pins_p15 : GoodIn wsL_acts wsL_pins_r15 := goodIn_r _ [79, 80, 81, 82, 83, 84, 85, 90, 91, 92, 93, 146, 147, 148, 149, 150, 182, 183, 184, 185, 186, 190, 191, 192] (by decide +kernel) (by decide +kernel)
set_option maxRecDepth 20000 in
theorem ggL_acts_L_pins_p16 : GoodIn wsL_acts wsL_pins_r16 := goodIn_r _ [193, 194, 195, 196, 198, 200, 201, 202, 203, 204, 205] (by decide +kernel) (by decide +kernel)
set_option maxRecDepth 20000 in
theorem ggL_acts_L_pins_p17 : GoodIn wsL_acts wsX80 := goodIn_r _ [424, 425, 426, 427, 428, 429, 430, 431, 432] (by decide +kernel) (by decide +kernel)
set_option maxRecDepth 20000 in
theorem ggL_acts_L_pins_p18 : GoodIn wsL_acts wsX40 := goodIn_r _ [433, 434, 435] (by decide +kernel) (by decide +kernel)
set_option maxRecDepth 20000 in
theorem ggL_acts_L_pins_p19 : GoodIn wsL_acts wsX10 := goodIn_r _ [446, 447] (by decide +kernel) (by decide +kernel)
set_option maxRecDepth 20000 in
theorem ggL_acts_L_pins_p20 : GoodIn wsL_acts wsX30 := goodIn_r _ [436, 437, 438, 439, 440, 441, 442, 443, 444, 445] (by decide +kernel) (by decide +kernel)
set_option maxRecDepth 20000 in
theorem ggL_acts_L_pins_p21 : GoodIn wsL_acts wsX70 := goodIn_r _ [448] (by decide +kernel) (by decide +kernel)
set_option maxRecDepth 20000 in
theorem ggL_acts_L_pins_p22 : GoodIn wsL_acts wsX50 := goodIn_r _ [459, 460, 461, 462, 463, 464, 465] (by decide +kernel) (by decide +kernel)
set_option maxRecDepth 20000 in
theorem ggL_acts_L_pins_p23 : GoodIn wsL_acts wsX20 := goodIn_r _ [451, 452, 453] (by decide +kernel) (by decide +kernel)
set_option maxRecDepth 20000 in
theorem ggL_acts_L_pins_p24 : GoodIn wsL_acts wsX60 := goodIn_r _ [449, 450] (by decide +kernel) (by decide +kernel)
set_option maxRecDepth 20000 in
theorem ggL_acts_L_pins_p25 : GoodIn wsL_acts wsX00 := goodIn_r _ [454, 455, 456, 457, 458] (by decide +kernel) (by decide +kernel)
set_option maxRecDepth 20000 in
theorem ggL_acts_L_pins : GoodIn wsL_acts wsL_pins := by
  unfold GoodIn wsL_pins
  exact List.forall_mem_cons.mpr ⟨ggL_acts_L_pins_p0 _ (List.mem_singleton.mpr rfl), List.forall_mem_append.mpr ⟨List.forall_mem_append.mpr ⟨List.forall_mem_append.mpr ⟨List.forall_mem_append.mpr ⟨List.forall_mem_append.mpr ⟨List.forall_mem_append.mpr ⟨List.forall_mem_append.mpr ⟨List.forall_mem_append.mpr ⟨List.forall_mem_append.mpr ⟨List.forall_mem_append.mpr ⟨ggL_acts_L_pins_p1, List.forall_mem_append.mpr ⟨ggL_acts_L_pins_p2, List.forall_mem_append.mpr ⟨ggL_acts_L_pins_p3, List.forall_mem_append.mpr ⟨ggL_acts_L_pins_p4, List.forall_mem_append.mpr ⟨ggL_acts_L_pins_p5, List.forall_mem_append.mpr ⟨ggL_acts_L_pins_p6, List.forall_mem_append.mpr ⟨ggL_acts_L_pins_p7, List.forall_mem_append.mpr ⟨ggL_acts_L_pins_p8, List.forall_mem_append.mpr ⟨ggL_acts_L_pins_p9, List.forall_mem_append.mpr ⟨ggL_acts_L_pins_p10, List.forall_mem_append.mpr ⟨ggL_acts_L_pins_p11, List.forall_mem_append.mpr ⟨ggL_acts_L_pins_p12, List.forall_mem_append.mpr ⟨ggL_acts_L_pins_p13, List.forall_mem_append.mpr ⟨ggL_acts_L_pins_p14, List.forall_mem_append.mpr ⟨ggL_acts_L_pins_p15, ggL_acts_L_pins_p16⟩⟩⟩⟩⟩⟩⟩⟩⟩⟩⟩⟩⟩⟩⟩, ggL_acts_L_pins_p17⟩, ggL_acts_L_pins_p18⟩, ggL_acts_L_pins_p19⟩, ggL_acts_L_pins_p20⟩, ggL_acts_L_pins_p21⟩, ggL_acts_L_pins_p22⟩, ggL_acts_L_pins_p23⟩, ggL_acts_L_pins_p24⟩, ggL_acts_L_pins_p25⟩⟩
set_option maxRecDepth 20000 in
theorem gL_acts_L_pins : GoodIn wsL_acts (va_wsS RL 48 yL_pins wsL_pins) := goodIn_app (goodIn_of _ (by decide +kernel)) ggL_acts_L_pins
set_option maxRecDepth 20000 in
theorem ggL_acts_X8_thread_p0 : GoodIn wsL_acts [.code yX8_thread cX8_thread 3 (some .int)] := goodIn_r _ [364] (by decide +kernel) (by decide +kernel)
set_option maxRecDepth 20000 in
theorem ggL_acts_X8_thread_p1 : GoodIn wsL_acts wsX8_thread_r1 := goodIn_r _ [7, 6, 255, 365, 62, 4, 63, 17, 18, 19, 20, 21, 22, 23, 24, 25, 26, 27, 28, 29, 30, 31, 32, 33] (by decide +kernel) (by decide +kernel)
set_option maxRecDepth 20000 in
theorem ggL_acts_X8_thread_p2 : GoodIn wsL_acts wsX8_thread_r2 := goodIn_r _ [34, 12, 13, 14, 15, 16, 35, 36, 37, 38, 39, 40, 41, 42, 43, 44, 45, 46, 47, 48, 49, 50, 51, 52] (by decide +kernel) (by decide +kernel)
set_option maxRecDepth 20000 in
theorem ggL_acts_X8_thread_p3 : GoodIn wsL_acts wsX8_thread_r3 := goodIn_r _ [53, 54, 55, 56, 57, 58, 59, 60, 61, 64, 65, 66, 67, 68, 69, 70, 71, 72, 73, 74, 75, 76, 106, 107] (by decide +kernel) (by decide +kernel)
set_option maxRecDepth 20000 in
theorem ggL_acts_X8_thread_p4 : GoodIn wsL_acts wsX8_thread_r4 := goodIn_r _ [108, 109, 110, 111, 112, 113, 114, 115, 116, 117, 118, 119, 120, 121, 122, 123, 124, 125, 126, 127, 128, 129, 130, 131] (by decide +kernel) (by decide +kernel)
set_option maxRecDepth 20000 in
theorem ggL_acts_X8_thread_p5 : GoodIn wsL_acts wsX8_thread_r5 := goodIn_r _ [132, 133, 134, 135, 136, 137, 138, 139, 140, 141, 142, 143, 144, 145, 366, 367, 368, 369, 272, 273, 274, 275, 276, 277] (by decide +kernel) (by decide +kernel)
set_option maxRecDepth 20000 in
theorem ggL_acts_X8_thread_p6 : GoodIn wsL_acts wsX8_thread_r6 := goodIn_r _ [278, 279, 280, 281, 282, 283, 284, 285, 286, 287, 288, 221, 222, 223, 289, 290, 291, 292, 293, 294, 295, 296, 370, 371] (by decide +kernel) (by decide +kernel)
set_option maxRecDepth 20000 in
theorem ggL_acts_X8_thread_p7 : GoodIn wsL_acts wsX8_thread_r7 := goodIn_r _ [372, 373, 374, 375, 187, 188, 189] (by decide +kernel) (by decide +kernel)
set_option maxRecDepth 20000 in
theorem ggL_acts_X8_thread_p8 : GoodIn wsL_acts wsX80 := goodIn_r _ [424, 425, 426, 427, 428, 429, 430, 431, 432] (by decide +kernel) (by decide +kernel)
set_option maxRecDepth 20000 in
theorem ggL_acts_X8_thread_p9 : GoodIn wsL_acts wsX40 := goodIn_r _ [433, 434, 435] (by decide +kernel) (by decide +kernel)
set_option maxRecDepth 20000 in
theorem ggL_acts_X8_thread_p10 : GoodIn wsL_acts wsX30 := goodIn_r _ [436, 437, 438, 439, 440, 441, 442, 443, 444, 445] (by decide +kernel) (by decide +kernel)
set_option maxRecDepth 20000 in
theorem ggL_acts_X8_thread_p11 : GoodIn wsL_acts wsX10 := goodIn_r _ [446, 447] (by decide +kernel) (by decide +kernel)
set_option maxRecDepth 20000 in
theorem ggL_acts_X8_thread_p12 : GoodIn wsL_acts wsX70 := goodIn_r _ [448] (by decide +kernel) (by decide +kernel)
set_option maxRecDepth 20000 in
theorem ggL_acts_X8_thread_p13 : GoodIn wsL_acts wsX50 := goodIn_r _ [459, 460, 461, 462, 463, 464, 465] (by decide +kernel) (by decide +kernel)
set_option maxRecDepth 20000 in
theorem ggL_acts_X8_thread : GoodIn wsL_acts wsX8_thread := by
  unfold GoodIn wsX8_thread
  exact List.forall_mem_cons.mpr ⟨ggL_acts_X8_thread_p0 _ (List.mem_singleton.mpr rfl), List.forall_mem_append.mpr ⟨List.forall_mem_append.mpr ⟨List.forall_mem_append.mpr ⟨List.forall_mem_append.mpr ⟨List.forall_mem_append.mpr ⟨List.forall_mem_append.mpr ⟨List.forall_mem_append.mpr ⟨ggL_acts_X8_thread_p1, List.forall_mem_append.mpr ⟨ggL_acts_X8_thread_p2, List.forall_mem_append.mpr ⟨ggL_acts_X8_thread_p3, List.forall_mem_append.mpr ⟨ggL_acts_X8_thread_p4, List.forall_mem_append.mpr ⟨ggL_acts_X8_thread_p5, List.forall_mem_append.mpr ⟨ggL_acts_X8_thread_p6, ggL_acts_X8_thread_p7⟩⟩⟩⟩⟩⟩, ggL_acts_X8_thread_p8⟩, ggL_acts_X8_thread_p9⟩, ggL_acts_X8_thread_p10⟩, ggL_acts_X8_thread_p11⟩, ggL_acts_X8_thread_p12⟩, ggL_acts_X8_thread_p13⟩⟩
set_option maxRecDepth 20000 in
theorem gL_acts_X8_thread : GoodIn wsL_acts (wsV RL 25 RX8 yX8_thread wsX8_thread) := goodIn_app (goodIn_of _ (by decide +kernel)) ggL_acts_X8_thread
set_option maxRecDepth 20000 in
theorem ggL_acts_X8_straighten_p0 : GoodIn wsL_acts [.code yX8_straighten cX8_straighten 3 (some .int)] := goodIn_r _ [379] (by decide +kernel) (by decide +kernel)
set_option maxRecDepth 20000 in
theorem ggL_acts_X8_straighten_p1 : GoodIn wsL_acts wsX8_straighten_r1 := goodIn_r _ [7, 6, 255, 9, 365, 62, 4, 63, 17, 18, 19, 20, 21, 22, 23, 24, 25, 26, 27, 28, 29, 30, 31, 32] (by decide +kernel) (by decide +kernel)
set_option maxRecDepth 20000 in
theorem ggL_acts_X8_straighten_p2 : GoodIn wsL_acts wsX8_straighten_r2 := goodIn_r _ [33, 34, 12, 13, 14, 15, 16, 35, 36, 37, 38, 39, 40, 41, 42, 43, 44, 45, 46, 47, 48, 49, 50, 51] (by decide +kernel) (by decide +kernel)
set_option maxRecDepth 20000 in
theorem ggL_acts_X8_straighten_p3 : GoodIn wsL_acts wsX8_straighten_r3 := goodIn_r _ [52, 53, 54, 55, 56, 57, 58, 59, 60, 61, 64, 65, 66, 67, 68, 69, 70, 71, 72, 73, 74, 75, 76, 272] (by decide +kernel) (by decide +kernel)
set_option maxRecDepth 20000 in
theorem ggL_acts_X8_straighten_p4 : GoodIn wsL_acts wsX8_straighten_r4 := goodIn_r _ [273, 274, 275, 276, 277, 278, 279, 280, 281, 282, 283, 284, 285, 286, 111, 112, 113, 287, 127, 128, 129, 288, 221, 222] (by decide +kernel) (by decide +kernel)
set_option maxRecDepth 20000 in
theorem ggL_acts_X8_straighten_p5 : GoodIn wsL_acts wsX8_straighten_r5 := goodIn_r _ [223, 118, 119, 120, 121, 289, 290, 291, 292, 293, 294, 295, 296, 380, 381, 382, 383, 384, 385, 386, 387, 388, 307, 308] (by decide +kernel) (by decide +kernel)
set_option maxRecDepth 20000 in
theorem ggL_acts_X8_straighten_p6 : GoodIn wsL_acts wsX8_straighten_r6 := goodIn_r _ [309, 310, 389, 390, 391, 392, 316, 317, 318, 197, 319, 199, 320, 321, 322, 323, 324, 325, 326, 327, 328, 329, 330, 331] (by decide +kernel) (by decide +kernel)
set_option maxRecDepth 20000 in
theorem ggL_acts_X8_straighten_p7 : GoodIn wsL_acts wsX8_straighten_r7 := goodIn_r _ [332, 261, 262, 263, 333, 334, 335, 336, 337, 338, 257, 258, 259, 260, 393, 394, 395, 396, 397, 269, 270, 271] (by decide +kernel) (by decide +kernel)
set_option maxRecDepth 20000 in
theorem ggL_acts_X8_straighten_p8 : GoodIn wsL_acts wsX80 := goodIn_r _ [424, 425, 426, 427, 428, 429, 430, 431, 432] (by decide +kernel) (by decide +kernel)
set_option maxRecDepth 20000 in
theorem ggL_acts_X8_straighten_p9 : GoodIn wsL_acts wsX40 := goodIn_r _ [433, 434, 435] (by decide +kernel) (by decide +kernel)
set_option maxRecDepth 20000 in
theorem ggL_acts_X8_straighten_p10 : GoodIn wsL_acts wsX30 := goodIn_r _ [436, 437, 438, 439, 440, 441, 442, 443, 444, 445] (by decide +kernel) (by decide +kernel)
set_option maxRecDepth 20000 in
theorem ggL_acts_X8_straighten_p11 : GoodIn wsL_acts wsX10 := goodIn_r _ [446, 447] (by decide +kernel) (by decide +kernel)
set_option maxRecDepth 20000 in
theorem ggL_acts_X8_straighten_p12 : GoodIn wsL_acts wsX70 := goodIn_r _ [448] (by decide +kernel) (by decide +kernel)
set_option maxRecDepth 20000 in
theorem ggL_acts_X8_straighten_p13 : GoodIn wsL_acts wsX50 := goodIn_r _ [459, 460, 461, 462, 463, 464, 465] (by decide +kernel) (by decide +kernel)
set_option maxRecDepth 20000 in
theorem ggL_acts_X8_straighten_p14 : GoodIn wsL_acts wsX20 := goodIn_r _ [451, 452, 453] (by decide +kernel) (by decide +kernel)
set_option maxRecDepth 20000 in
theorem ggL_acts_X8_straighten : GoodIn wsL_acts wsX8_straighten := by
  unfold GoodIn wsX8_straighten
  exact List.forall_mem_cons.mpr ⟨ggL_acts_X8_straighten_p0 _ (List.mem_singleton.mpr rfl), List.forall_mem_append.mpr ⟨List.forall_mem_append.mpr ⟨List.forall_mem_append.mpr ⟨List.forall_mem_append.mpr ⟨List.forall_mem_append.mpr ⟨List.forall_mem_append.mpr ⟨List.forall_mem_append.mpr ⟨List.forall_mem_append.mpr ⟨ggL_acts_X8_straighten_p1, List.forall_mem_append.mpr ⟨ggL_acts_X8_straighten_p2, List.forall_mem_append.mpr ⟨ggL_acts_X8_straighten_p3, List.forall_mem_append.mpr ⟨ggL_acts_X8_straighten_p4, List.forall_mem_append.mpr ⟨ggL_acts_X8_straighten_p5, List.forall_mem_append.mpr ⟨ggL_acts_X8_straighten_p6, ggL_acts_X8_straighten_p7⟩⟩⟩⟩⟩⟩, ggL_acts_X8_straighten_p8⟩, ggL_acts_X8_straighten_p9⟩, ggL_acts_X8_straighten_p10⟩, ggL_acts_X8_straighten_p11⟩, ggL_acts_X8_straighten_p12⟩, ggL_acts_X8_straighten_p13⟩, ggL_acts_X8_straighten_p14⟩⟩
set_option maxRecDepth 20000 in
theorem gL_acts_X8_straighten : GoodIn wsL_acts (wsV RL 52 RX8 yX8_straighten wsX8_straighten) := goodIn_app (goodIn_of _ (by decide +kernel)) ggL_acts_X8_straighten
set_option maxRecDepth 20000 in
theorem ggL_acts_X8_card : GoodIn wsL_acts wsX8_card := goodIn_r _ [213, 6, 7, 214, 42, 43, 31, 44, 33, 215, 54, 55, 56, 57, 58, 59, 60, 61, 17, 18, 19, 20, 21, 22, 23, 24, 25, 26, 27, 28, 29, 30, 32, 34, 12, 13, 14, 15, 16, 35, 36, 37, 38, 39, 40, 41, 45, 46, 47, 48, 49, 50, 51, 52, 53, 62, 4, 63, 64, 65, 66, 67, 68, 69, 70, 71, 72, 73, 74, 75, 76, 216, 217, 218, 219, 220, 221, 222, 223, 118, 119, 120, 121, 224, 115, 116, 117, 225, 226, 227, 228, 229, 131, 132, 133, 230, 139, 140, 141, 231, 424, 425, 426, 427, 428, 429, 430, 431, 432, 433, 434, 435, 446, 447, 436, 437, 438, 439, 440, 441, 442, 443, 444, 445, 448] (by decide +kernel) (by decide +kernel)
set_option maxRecDepth 20000 in
theorem gL_acts_X8_card : GoodIn wsL_acts (wsV RL 18 RX8 yX8_card wsX8_card) := goodIn_app (goodIn_of _ (by decide +kernel)) ggL_acts_X8_card
set_option maxRecDepth 20000 in
theorem ggL_acts_X8_swap_p0 : GoodIn wsL_acts [.code yX8_swap cX8_swap 5 (some .int)] := goodIn_r _ [401] (by decide +kernel) (by decide +kernel)
set_option maxRecDepth 20000 in
theorem ggL_acts_X8_swap_p1 : GoodIn wsL_acts wsX8_swap_r1 := goodIn_r _ [6, 9, 214, 42, 43, 31, 44, 33, 315, 248, 249, 38, 250, 40, 89, 36, 37, 39, 316, 317, 318, 197, 319, 199] (by decide +kernel) (by decide +kernel)
set_option maxRecDepth 20000 in
theorem ggL_acts_X8_swap_p2 : GoodIn wsL_acts wsX8_swap_r2 := goodIn_r _ [320, 321, 322, 323, 324, 325, 326, 327, 328, 14, 329, 330, 331, 16, 332, 261, 262, 263, 333, 334, 335, 336, 57, 337] (by decide +kernel) (by decide +kernel)
set_option maxRecDepth 20000 in
theorem ggL_acts_X8_swap_p3 : GoodIn wsL_acts wsX8_swap_r3 := goodIn_r _ [338, 257, 258, 259, 260, 402, 403, 404, 405, 268, 269, 270, 271, 343, 344, 345, 4, 346, 7, 17, 18, 19, 20, 21] (by decide +kernel) (by decide +kernel)
set_option maxRecDepth 20000 in
theorem ggL_acts_X8_swap_p4 : GoodIn wsL_acts wsX8_swap_r4 := goodIn_r _ [22, 23, 24, 25, 26, 27, 28, 29, 30, 32, 34, 12, 13, 15, 35, 41, 45, 46, 47, 48, 49, 50, 51, 52] (by decide +kernel) (by decide +kernel)
set_option maxRecDepth 20000 in
theorem ggL_acts_X8_swap_p5 : GoodIn wsL_acts wsX8_swap_r5 := goodIn_r _ [53, 54, 55, 56, 58, 59, 60, 61, 62, 63, 64, 65, 66, 67, 68, 69, 70, 71, 72, 73, 74, 75, 76, 106] (by decide +kernel) (by decide +kernel)
set_option maxRecDepth 20000 in
theorem ggL_acts_X8_swap_p6 : GoodIn wsL_acts wsX8_swap_r6 := goodIn_r _ [107, 108, 109, 110, 111, 112, 113, 114, 115, 116, 117, 118, 119, 120, 121, 122, 123, 124, 125, 126, 127, 128, 129, 130] (by decide +kernel) (by decide +kernel)
set_option maxRecDepth 20000 in
theorem ggL_acts_X8_swap_p7 : GoodIn wsL_acts wsX8_swap_r7 := goodIn_r _ [131, 132, 133, 134, 135, 136, 137, 138, 139, 140, 141, 142, 143, 144, 145] (by decide +kernel) (by decide +kernel)
set_option maxRecDepth 20000 in
theorem ggL_acts_X8_swap_p8 : GoodIn wsL_acts wsX80 := goodIn_r _ [424, 425, 426, 427, 428, 429, 430, 431, 432] (by decide +kernel) (by decide +kernel)
set_option maxRecDepth 20000 in
theorem ggL_acts_X8_swap_p9 : GoodIn wsL_acts wsX40 := goodIn_r _ [433, 434, 435] (by decide +kernel) (by decide +kernel)
set_option maxRecDepth 20000 in
theorem ggL_acts_X8_swap_p10 : GoodIn wsL_acts wsX10 := goodIn_r _ [446, 447] (by decide +kernel) (by decide +kernel)
set_option maxRecDepth 20000 in
theorem ggL_acts_X8_swap_p11 : GoodIn wsL_acts wsX70 := goodIn_r _ [448] (by decide +kernel) (by decide +kernel)
set_option maxRecDepth 20000 in
theorem ggL_acts_X8_swap_p12 : GoodIn wsL_acts wsX20 := goodIn_r _ [451, 452, 453] (by decide +kernel) (by decide +kernel)
set_option maxRecDepth 20000 in
theorem ggL_acts_X8_swap_p13 : GoodIn wsL_acts wsX30 := goodIn_r _ [436, 437, 438, 439, 440, 441, 442, 443, 444, 445] (by decide +kernel) (by decide +kernel)
set_option maxRecDepth 20000 in
theorem ggL_acts_X8_swap : GoodIn wsL_acts wsX8_swap := by
  unfold GoodIn wsX8_swap
  exact List.forall_mem_cons.mpr ⟨ggL_acts_X8_swap_p0 _ (List.mem_singleton.mpr rfl), List.forall_mem_append.mpr ⟨List.forall_mem_append.mpr ⟨List.forall_mem_append.mpr ⟨List.forall_mem_append.mpr ⟨List.forall_mem_append.mpr ⟨List.forall_mem_append.mpr ⟨List.forall_mem_append.mpr ⟨ggL_acts_X8_swap_p1, List.forall_mem_append.mpr ⟨ggL_acts_X8_swap_p2, List.forall_mem_append.mpr ⟨ggL_acts_X8_swap_p3, List.forall_mem_append.mpr ⟨ggL_acts_X8_swap_p4, List.forall_mem_append.mpr ⟨ggL_acts_X8_swap_p5, List.forall_mem_append.mpr ⟨ggL_acts_X8_swap_p6, ggL_acts_X8_swap_p7⟩⟩⟩⟩⟩⟩, ggL_acts_X8_swap_p8⟩, ggL_acts_X8_swap_p9⟩, ggL_acts_X8_swap_p10⟩, ggL_acts_X8_swap_p11⟩, ggL_acts_X8_swap_p12⟩, ggL_acts_X8_swap_p13⟩⟩
set_option maxRecDepth 20000 in
theorem gL_acts_X8_swap : GoodIn wsL_acts (wsV RL 55 RX8 yX8_swap wsX8_swap) := goodIn_app (goodIn_of _ (by decide +kernel)) ggL_acts_X8_swap
set_option maxRecDepth 20000 in
theorem ggL_acts_X8_best_p0 : GoodIn wsL_acts [.code yX8_best cX8_best 9 (some .int)] := goodIn_r _ [409] (by decide +kernel) (by decide +kernel)
set_option maxRecDepth 20000 in
theorem ggL_acts_X8_best_p1 : GoodIn wsL_acts wsX8_best_r1 := goodIn_r _ [6, 236, 214, 42, 43, 31, 44, 33, 251, 252, 253, 4, 254, 7, 255, 256, 257, 258, 38, 259, 40, 260, 261, 262] (by decide +kernel) (by decide +kernel)
set_option maxRecDepth 20000 in
theorem ggL_acts_X8_best_p2 : GoodIn wsL_acts wsX8_best_r2 := goodIn_r _ [263, 264, 265, 266, 267, 247, 248, 249, 250, 89, 36, 37, 39, 104, 105, 268, 269, 270, 271, 17, 18, 19, 20, 21] (by decide +kernel) (by decide +kernel)
set_option maxRecDepth 20000 in
theorem ggL_acts_X8_best_p3 : GoodIn wsL_acts wsX8_best_r3 := goodIn_r _ [22, 23, 24, 25, 26, 27, 28, 29, 30, 32, 34, 12, 13, 14, 15, 16, 35, 41, 45, 46, 47, 48, 49, 50] (by decide +kernel) (by decide +kernel)
set_option maxRecDepth 20000 in
theorem ggL_acts_X8_best_p4 : GoodIn wsL_acts wsX8_best_r4 := goodIn_r _ [51, 52, 53, 54, 55, 56, 57, 58, 59, 60, 61, 62, 63, 64, 65, 66, 67, 68, 69, 70, 71, 72, 73, 74] (by decide +kernel) (by decide +kernel)
set_option maxRecDepth 20000 in
theorem ggL_acts_X8_best_p5 : GoodIn wsL_acts wsX8_best_r5 := goodIn_r _ [75, 76, 215, 272, 273, 274, 275, 276, 277, 278, 279, 280, 281, 282, 283, 284, 285, 286, 111, 112, 113, 287, 127, 128] (by decide +kernel) (by decide +kernel)
set_option maxRecDepth 20000 in
theorem ggL_acts_X8_best_p6 : GoodIn wsL_acts wsX8_best_r6 := goodIn_r _ [129, 288, 221, 222, 223, 118, 119, 120, 121, 289, 290, 291, 292, 293, 294, 295, 296, 242, 95, 96, 97, 98, 99, 100] (by decide +kernel) (by decide +kernel)
set_option maxRecDepth 20000 in
theorem ggL_acts_X8_best_p7 : GoodIn wsL_acts wsX8_best_r7 := goodIn_r _ [101, 102, 103, 297, 298, 86, 87, 88, 299, 300, 301, 302, 303, 304, 305, 306, 307, 308, 309, 310] (by decide +kernel) (by decide +kernel)
set_option maxRecDepth 20000 in
theorem ggL_acts_X8_best_p8 : GoodIn wsL_acts wsX80 := goodIn_r _ [424, 425, 426, 427, 428, 429, 430, 431, 432] (by decide +kernel) (by decide +kernel)
set_option maxRecDepth 20000 in
theorem ggL_acts_X8_best_p9 : GoodIn wsL_acts wsX40 := goodIn_r _ [433, 434, 435] (by decide +kernel) (by decide +kernel)
set_option maxRecDepth 20000 in
theorem ggL_acts_X8_best_p10 : GoodIn wsL_acts wsX10 := goodIn_r _ [446, 447] (by decide +kernel) (by decide +kernel)
set_option maxRecDepth 20000 in
theorem ggL_acts_X8_best_p11 : GoodIn wsL_acts wsX70 := goodIn_r _ [448] (by decide +kernel) (by decide +kernel)
set_option maxRecDepth 20000 in
theorem ggL_acts_X8_best_p12 : GoodIn wsL_acts wsX30 := goodIn_r _ [436, 437, 438, 439, 440, 441, 442, 443, 444, 445] (by decide +kernel) (by decide +kernel)
set_option maxRecDepth 20000 in
theorem ggL_acts_X8_best_p13 : GoodIn wsL_acts wsX50 := goodIn_r _ [459, 460, 461, 462, 463, 464, 465] (by decide +kernel) (by decide +kernel)
set_option maxRecDepth 20000 in
theorem ggL_acts_X8_best : GoodIn wsL_acts wsX8_best := by
  unfold GoodIn wsX8_best
  exact List.forall_mem_cons.mpr ⟨ggL_acts_X8_best_p0 _ (List.mem_singleton.mpr rfl), List.forall_mem_append.mpr ⟨List.forall_mem_append.mpr ⟨List.forall_mem_append.mpr ⟨List.forall_mem_append.mpr ⟨List.forall_mem_append.mpr ⟨List.forall_mem_append.mpr ⟨List.forall_mem_append.mpr ⟨ggL_acts_X8_best_p1, List.forall_mem_append.mpr ⟨ggL_acts_X8_best_p2, List.forall_mem_append.mpr ⟨ggL_acts_X8_best_p3, List.forall_mem_append.mpr ⟨ggL_acts_X8_best_p4, List.forall_mem_append.mpr ⟨ggL_acts_X8_best_p5, List.forall_mem_append.mpr ⟨ggL_acts_X8_best_p6, ggL_acts_X8_best_p7⟩⟩⟩⟩⟩⟩, ggL_acts_X8_best_p8⟩, ggL_acts_X8_best_p9⟩, ggL_acts_X8_best_p10⟩, ggL_acts_X8_best_p11⟩, ggL_acts_X8_best_p12⟩, ggL_acts_X8_best_p13⟩⟩
set_option maxRecDepth 20000 in
theorem gL_acts_X8_best : GoodIn wsL_acts (wsV RL 58 RX8 yX8_best wsX8_best) := goodIn_app (goodIn_of _ (by decide +kernel)) ggL_acts_X8_best
set_option maxRecDepth 20000 in
theorem ggL_acts_X8_would_p0 : GoodIn wsL_acts [.code yX8_would cX8_would 6 (some .int)] := goodIn_r _ [235] (by decide +kernel) (by decide +kernel)
set_option maxRecDepth 20000 in
theorem ggL_acts_X8_would_p1 : GoodIn wsL_acts wsX8_would_r1 := goodIn_r _ [236, 7, 237, 238, 239, 4, 240, 6, 214, 42, 43, 31, 44, 33, 241, 102, 103, 242, 95, 96, 38, 97, 98, 99] (by decide +kernel) (by decide +kernel)
set_option maxRecDepth 20000 in
theorem ggL_acts_X8_would_p2 : GoodIn wsL_acts wsX8_would_r2 := goodIn_r _ [100, 101, 104, 105, 89, 36, 37, 39, 40, 243, 244, 245, 246, 247, 248, 249, 250, 251, 252, 253, 254, 255, 256, 257] (by decide +kernel) (by decide +kernel)
set_option maxRecDepth 20000 in
theorem ggL_acts_X8_would_p3 : GoodIn wsL_acts wsX8_would_r3 := goodIn_r _ [258, 259, 260, 261, 262, 263, 264, 265, 266, 267, 268, 269, 270, 271, 17, 18, 19, 20, 21, 22, 23, 24, 25, 26] (by decide +kernel) (by decide +kernel)
set_option maxRecDepth 20000 in
theorem ggL_acts_X8_would_p4 : GoodIn wsL_acts wsX8_would_r4 := goodIn_r _ [27, 28, 29, 30, 32, 34, 12, 13, 14, 15, 16, 35, 41, 45, 46, 47, 48, 49, 50, 51, 52, 53, 54, 55] (by decide +kernel) (by decide +kernel)
set_option maxRecDepth 20000 in
theorem ggL_acts_X8_would_p5 : GoodIn wsL_acts wsX8_would_r5 := goodIn_r _ [56, 57, 58, 59, 60, 61, 62, 63, 64, 65, 66, 67, 68, 69, 70, 71, 72, 73, 74, 75, 76, 215, 272, 273] (by decide +kernel) (by decide +kernel)
set_option maxRecDepth 20000 in
theorem ggL_acts_X8_would_p6 : GoodIn wsL_acts wsX8_would_r6 := goodIn_r _ [274, 275, 276, 277, 278, 279, 280, 281, 282, 283, 284, 285, 286, 111, 112, 113, 287, 127, 128, 129, 288, 221, 222, 223] (by decide +kernel) (by decide +kernel)
set_option maxRecDepth 20000 in
theorem ggL_acts_X8_would_p7 : GoodIn wsL_acts wsX8_would_r7 := goodIn_r _ [118, 119, 120, 121, 289, 290, 291, 292, 293, 294, 295, 296, 297, 298, 86, 87, 88, 106, 107, 108, 109, 110, 114, 115] (by decide +kernel) (by decide +kernel)
set_option maxRecDepth 20000 in
theorem ggL_acts_X8_would_p8 : GoodIn wsL_acts wsX8_would_r8 := goodIn_r _ [116, 117, 122, 123, 124, 125, 126, 130, 131, 132, 133, 134, 135, 136, 137, 138, 139, 140, 141, 142, 143, 144, 145, 299] (by decide +kernel) (by decide +kernel)
set_option maxRecDepth 20000 in
theorem ggL_acts_X8_would_p9 : GoodIn wsL_acts wsX8_would_r9 := goodIn_r _ [300, 301, 302, 303, 304, 305, 306, 307, 308, 309, 310] (by decide +kernel) (by decide +kernel)
set_option maxRecDepth 20000 in
theorem ggL_acts_X8_would_p10 : GoodIn wsL_acts wsX80 := goodIn_r _ [424, 425, 426, 427, 428, 429, 430, 431, 432] (by decide +kernel) (by decide +kernel)
set_option maxRecDepth 20000 in
theorem ggL_acts_X8_would_p11 : GoodIn wsL_acts wsX40 := goodIn_r _ [433, 434, 435] (by decide +kernel) (by decide +kernel)
set_option maxRecDepth 20000 in
theorem ggL_acts_X8_would_p12 : GoodIn wsL_acts wsX10 := goodIn_r _ [446, 447] (by decide +kernel) (by decide +kernel)
set_option maxRecDepth 20000 in
theorem ggL_acts_X8_would_p13 : GoodIn wsL_acts wsX70 := goodIn_r _ [448] (by decide +kernel) (by decide +kernel)
set_option maxRecDepth 20000 in
theorem ggL_acts_X8_would_p14 : GoodIn wsL_acts wsX30 := goodIn_r _ [436, 437, 438, 439, 440, 441, 442, 443, 444, 445] (by decide +kernel) (by decide +kernel)
set_option maxRecDepth 20000 in
theorem ggL_acts_X8_would_p15 : GoodIn wsL_acts wsX50 := goodIn_r _ [459, 460, 461, 462, 463, 464, 465] (by decide +kernel) (by decide +kernel)
set_option maxRecDepth 20000 in
theorem ggL_acts_X8_would : GoodIn wsL_acts wsX8_would := by
  unfold GoodIn wsX8_would
  exact List.forall_mem_cons.mpr ⟨ggL_acts_X8_would_p0 _ (List.mem_singleton.mpr rfl), List.forall_mem_append.mpr ⟨List.forall_mem_append.mpr ⟨List.forall_mem_append.mpr ⟨List.forall_mem_append.mpr ⟨List.forall_mem_append.mpr ⟨List.forall_mem_append.mpr ⟨List.forall_mem_append.mpr ⟨ggL_acts_X8_would_p1, List.forall_mem_append.mpr ⟨ggL_acts_X8_would_p2, List.forall_mem_append.mpr ⟨ggL_acts_X8_would_p3, List.forall_mem_append.mpr ⟨ggL_acts_X8_would_p4, List.forall_mem_append.mpr ⟨ggL_acts_X8_would_p5, List.forall_mem_append.mpr ⟨ggL_acts_X8_would_p6, List.forall_mem_append.mpr ⟨ggL_acts_X8_would_p7, List.forall_mem_append.mpr ⟨ggL_acts_X8_would_p8, ggL_acts_X8_would_p9⟩⟩⟩⟩⟩⟩⟩⟩, ggL_acts_X8_would_p10⟩, ggL_acts_X8_would_p11⟩, ggL_acts_X8_would_p12⟩, ggL_acts_X8_would_p13⟩, ggL_acts_X8_would_p14⟩, ggL_acts_X8_would_p15⟩⟩
set_option maxRecDepth 20000 in
theorem gL_acts_X8_would : GoodIn wsL_acts (wsV RL 41 RX8 yX8_would wsX8_would) := goodIn_app (goodIn_of _ (by decide +kernel)) ggL_acts_X8_would
set_option maxRecDepth 20000 in
theorem ggL_acts_X8_scene_p0 : GoodIn wsL_acts [.code yX8_scene cX8_scene 3 (some .int)] := goodIn_r _ [350] (by decide +kernel) (by decide +kernel)
set_option maxRecDepth 20000 in
theorem ggL_acts_X8_scene_p1 : GoodIn wsL_acts wsX8_scene_r1 := goodIn_r _ [7, 6, 8, 241, 102, 4, 103, 17, 18, 19, 20, 21, 22, 23, 24, 25, 26, 27, 28, 29, 30, 31, 32, 33] (by decide +kernel) (by decide +kernel)
set_option maxRecDepth 20000 in
theorem ggL_acts_X8_scene_p2 : GoodIn wsL_acts wsX8_scene_r2 := goodIn_r _ [34, 12, 13, 14, 15, 16, 35, 36, 37, 38, 39, 40, 41, 42, 43, 44, 45, 46, 47, 48, 49, 50, 51, 52] (by decide +kernel) (by decide +kernel)
set_option maxRecDepth 20000 in
theorem ggL_acts_X8_scene_p3 : GoodIn wsL_acts wsX8_scene_r3 := goodIn_r _ [53, 54, 55, 56, 57, 58, 59, 60, 61, 62, 63, 64, 65, 66, 67, 68, 69, 70, 71, 72, 73, 74, 75, 76] (by decide +kernel) (by decide +kernel)
set_option maxRecDepth 20000 in
theorem ggL_acts_X8_scene_p4 : GoodIn wsL_acts wsX8_scene_r4 := goodIn_r _ [158, 159, 160, 161, 162, 163, 164, 165, 166, 167, 168, 95, 96, 97, 98, 99, 100, 101, 104, 105, 89, 169, 170, 171] (by decide +kernel) (by decide +kernel)
set_option maxRecDepth 20000 in
theorem ggL_acts_X8_scene_p5 : GoodIn wsL_acts wsX8_scene_r5 := goodIn_r _ [172, 173, 174, 175, 176, 177, 178, 179, 180, 181, 242, 106, 107, 108, 109, 110, 111, 112, 113, 114, 115, 116, 117, 118] (by decide +kernel) (by decide +kernel)
set_option maxRecDepth 20000 in
theorem ggL_acts_X8_scene_p6 : GoodIn wsL_acts wsX8_scene_r6 := goodIn_r _ [119, 120, 121, 122, 123, 124, 125, 126, 127, 128, 129, 130, 131, 132, 133, 134, 135, 136, 137, 138, 139, 140, 141, 142] (by decide +kernel) (by decide +kernel)
set_option maxRecDepth 20000 in
theorem ggL_acts_X8_scene_p7 : GoodIn wsL_acts wsX8_scene_r7 := goodIn_r _ [143, 144, 145, 351, 352, 353, 354, 355, 151, 152, 153, 94, 154, 155, 156, 157, 356, 357, 358, 359, 360] (by decide +kernel) (by decide +kernel)
set_option maxRecDepth 20000 in
theorem ggL_acts_X8_scene_p8 : GoodIn wsL_acts wsX80 := goodIn_r _ [424, 425, 426, 427, 428, 429, 430, 431, 432] (by decide +kernel) (by decide +kernel)
set_option maxRecDepth 20000 in
theorem ggL_acts_X8_scene_p9 : GoodIn wsL_acts wsX40 := goodIn_r _ [433, 434, 435] (by decide +kernel) (by decide +kernel)
set_option maxRecDepth 20000 in
theorem ggL_acts_X8_scene_p10 : GoodIn wsL_acts wsX30 := goodIn_r _ [436, 437, 438, 439, 440, 441, 442, 443, 444, 445] (by decide +kernel) (by decide +kernel)
set_option maxRecDepth 20000 in
theorem ggL_acts_X8_scene_p11 : GoodIn wsL_acts wsX10 := goodIn_r _ [446, 447] (by decide +kernel) (by decide +kernel)
set_option maxRecDepth 20000 in
theorem ggL_acts_X8_scene_p12 : GoodIn wsL_acts wsX70 := goodIn_r _ [448] (by decide +kernel) (by decide +kernel)
set_option maxRecDepth 20000 in
theorem ggL_acts_X8_scene_p13 : GoodIn wsL_acts wsX60 := goodIn_r _ [449, 450] (by decide +kernel) (by decide +kernel)
set_option maxRecDepth 20000 in
theorem ggL_acts_X8_scene : GoodIn wsL_acts wsX8_scene := by
  unfold GoodIn wsX8_scene
  exact List.forall_mem_cons.mpr ⟨ggL_acts_X8_scene_p0 _ (List.mem_singleton.mpr rfl), List.forall_mem_append.mpr ⟨List.forall_mem_append.mpr ⟨List.forall_mem_append.mpr ⟨List.forall_mem_append.mpr ⟨List.forall_mem_append.mpr ⟨List.forall_mem_append.mpr ⟨List.forall_mem_append.mpr ⟨ggL_acts_X8_scene_p1, List.forall_mem_append.mpr ⟨ggL_acts_X8_scene_p2, List.forall_mem_append.mpr ⟨ggL_acts_X8_scene_p3, List.forall_mem_append.mpr ⟨ggL_acts_X8_scene_p4, List.forall_mem_append.mpr ⟨ggL_acts_X8_scene_p5, List.forall_mem_append.mpr ⟨ggL_acts_X8_scene_p6, ggL_acts_X8_scene_p7⟩⟩⟩⟩⟩⟩, ggL_acts_X8_scene_p8⟩, ggL_acts_X8_scene_p9⟩, ggL_acts_X8_scene_p10⟩, ggL_acts_X8_scene_p11⟩, ggL_acts_X8_scene_p12⟩, ggL_acts_X8_scene_p13⟩⟩
set_option maxRecDepth 20000 in
theorem gL_acts_X8_scene : GoodIn wsL_acts (wsV RL 9 RX8 yX8_scene wsX8_scene) := goodIn_app (goodIn_of _ (by decide +kernel)) ggL_acts_X8_scene
set_option maxRecDepth 20000 in
theorem ggL_acts_X8_unpin_p0 : GoodIn wsL_acts [.code yX8_unpin cX8_unpin 2 (some .int)] := goodIn_r _ [413] (by decide +kernel) (by decide +kernel)
set_option maxRecDepth 20000 in
theorem ggL_acts_X8_unpin_p1 : GoodIn wsL_acts wsX8_unpin_r1 := goodIn_r _ [6, 9, 214, 42, 43, 31, 44, 33, 315, 248, 249, 38, 250, 40, 89, 36, 37, 39, 316, 317, 318, 197, 319, 199] (by decide +kernel) (by decide +kernel)
set_option maxRecDepth 20000 in
theorem ggL_acts_X8_unpin_p2 : GoodIn wsL_acts wsX8_unpin_r2 := goodIn_r _ [320, 321, 322, 323, 324, 325, 326, 327, 328, 14, 329, 330, 331, 16, 332, 261, 262, 263, 333, 334, 335, 336, 57, 337] (by decide +kernel) (by decide +kernel)
set_option maxRecDepth 20000 in
theorem ggL_acts_X8_unpin_p3 : GoodIn wsL_acts wsX8_unpin_r3 := goodIn_r _ [338, 257, 258, 259, 260, 264, 265, 266, 267, 247, 104, 4, 105, 268, 269, 270, 271, 215, 54, 55, 56, 58, 59, 60] (by decide +kernel) (by decide +kernel)
set_option maxRecDepth 20000 in
theorem ggL_acts_X8_unpin_p4 : GoodIn wsL_acts wsX8_unpin_r4 := goodIn_r _ [61, 343, 344, 345, 346, 7, 17, 18, 19, 20, 21, 22, 23, 24, 25, 26, 27, 28, 29, 30, 32, 34, 12, 13] (by decide +kernel) (by decide +kernel)
set_option maxRecDepth 20000 in
theorem ggL_acts_X8_unpin_p5 : GoodIn wsL_acts wsX8_unpin_r5 := goodIn_r _ [15, 35, 41, 45, 46, 47, 48, 49, 50, 51, 52, 53, 62, 63, 64, 65, 66, 67, 68, 69, 70, 71, 72, 73] (by decide +kernel) (by decide +kernel)
set_option maxRecDepth 20000 in
theorem ggL_acts_X8_unpin_p6 : GoodIn wsL_acts wsX8_unpin_r6 := goodIn_r _ [74, 75, 76, 106, 107, 108, 109, 110, 111, 112, 113, 114, 115, 116, 117, 118, 119, 120, 121, 122, 123, 124, 125, 126] (by decide +kernel) (by decide +kernel)
set_option maxRecDepth 20000 in
theorem ggL_acts_X8_unpin_p7 : GoodIn wsL_acts wsX8_unpin_r7 := goodIn_r _ [127, 128, 129, 130, 131, 132, 133, 134, 135, 136, 137, 138, 139, 140, 141, 142, 143, 144, 145] (by decide +kernel) (by decide +kernel)
set_option maxRecDepth 20000 in
theorem ggL_acts_X8_unpin_p8 : GoodIn wsL_acts wsX80 := goodIn_r _ [424, 425, 426, 427, 428, 429, 430, 431, 432] (by decide +kernel) (by decide +kernel)
set_option maxRecDepth 20000 in
theorem ggL_acts_X8_unpin_p9 : GoodIn wsL_acts wsX40 := goodIn_r _ [433, 434, 435] (by decide +kernel) (by decide +kernel)
set_option maxRecDepth 20000 in
theorem ggL_acts_X8_unpin_p10 : GoodIn wsL_acts wsX10 := goodIn_r _ [446, 447] (by decide +kernel) (by decide +kernel)
set_option maxRecDepth 20000 in
theorem ggL_acts_X8_unpin_p11 : GoodIn wsL_acts wsX70 := goodIn_r _ [448] (by decide +kernel) (by decide +kernel)
set_option maxRecDepth 20000 in
theorem ggL_acts_X8_unpin_p12 : GoodIn wsL_acts wsX20 := goodIn_r _ [451, 452, 453] (by decide +kernel) (by decide +kernel)
set_option maxRecDepth 20000 in
theorem ggL_acts_X8_unpin_p13 : GoodIn wsL_acts wsX30 := goodIn_r _ [436, 437, 438, 439, 440, 441, 442, 443, 444, 445] (by decide +kernel) (by decide +kernel)
set_option maxRecDepth 20000 in
theorem ggL_acts_X8_unpin : GoodIn wsL_acts wsX8_unpin := by
  unfold GoodIn wsX8_unpin
  exact List.forall_mem_cons.mpr ⟨ggL_acts_X8_unpin_p0 _ (List.mem_singleton.mpr rfl), List.forall_mem_append.mpr ⟨List.forall_mem_append.mpr ⟨List.forall_mem_append.mpr ⟨List.forall_mem_append.mpr ⟨List.forall_mem_append.mpr ⟨List.forall_mem_append.mpr ⟨List.forall_mem_append.mpr ⟨ggL_acts_X8_unpin_p1, List.forall_mem_append.mpr ⟨ggL_acts_X8_unpin_p2, List.forall_mem_append.mpr ⟨ggL_acts_X8_unpin_p3, List.forall_mem_append.mpr ⟨ggL_acts_X8_unpin_p4, List.forall_mem_append.mpr ⟨ggL_acts_X8_unpin_p5, List.forall_mem_append.mpr ⟨ggL_acts_X8_unpin_p6, ggL_acts_X8_unpin_p7⟩⟩⟩⟩⟩⟩, ggL_acts_X8_unpin_p8⟩, ggL_acts_X8_unpin_p9⟩, ggL_acts_X8_unpin_p10⟩, ggL_acts_X8_unpin_p11⟩, ggL_acts_X8_unpin_p12⟩, ggL_acts_X8_unpin_p13⟩⟩
set_option maxRecDepth 20000 in
theorem gL_acts_X8_unpin : GoodIn wsL_acts (wsV RL 61 RX8 yX8_unpin wsX8_unpin) := goodIn_app (goodIn_of _ (by decide +kernel)) ggL_acts_X8_unpin
set_option maxRecDepth 20000 in
theorem ggL_acts_X8_change : GoodIn wsL_acts wsX8_change := goodIn_r _ [417, 6, 9, 214, 42, 43, 31, 44, 33, 418, 419, 4, 420, 421, 422, 215, 54, 55, 56, 57, 58, 59, 60, 61, 316, 317, 318, 197, 319, 199, 320, 321, 322, 323, 324, 325, 326, 327, 328, 14, 329, 330, 331, 16, 332, 261, 262, 263, 333, 334, 335, 336, 337, 338, 257, 258, 38, 259, 40, 260, 423, 74, 75, 76, 424, 425, 426, 427, 428, 429, 430, 431, 432, 433, 434, 435, 446, 447, 451, 452, 453, 448] (by decide +kernel) (by decide +kernel)
set_option maxRecDepth 20000 in
theorem gL_acts_X8_change : GoodIn wsL_acts (wsV RL 64 RX8 yX8_change wsX8_change) := goodIn_app (goodIn_of _ (by decide +kernel)) ggL_acts_X8_change
theorem dL_acts_0 : decode cL_acts 0 = .ok (.iload_n 1, 1) := by decide +kernel
theorem dL_acts_1 : decode cL_acts 1 = .ok (.iconst 4, 1) := by decide +kernel
theorem dL_acts_2 : decode cL_acts 2 = .ok (.ishr, 1) := by decide +kernel
theorem dL_acts_3 : decode cL_acts 3 = .ok (.aload_n 0, 1) := by decide +kernel
theorem dL_acts_4 : decode cL_acts 4 = .ok (.iconst 0, 1) := by decide +kernel
theorem dL_acts_5 : decode cL_acts 5 = .ok (.invokevirtual 21, 3) := by decide +kernel
theorem dL_acts_8 : decode cL_acts 8 = .ok (.irem, 1) := by decide +kernel
theorem dL_acts_9 : decode cL_acts 9 = .ok (.istore_n 2, 1) := by decide +kernel
theorem dL_acts_10 : decode cL_acts 10 = .ok (.iload_n 1, 1) := by decide +kernel
theorem dL_acts_11 : decode cL_acts 11 = .ok (.bipush 9, 2) := by decide +kernel
theorem dL_acts_13 : decode cL_acts 13 = .ok (.ishr, 1) := by decide +kernel
theorem dL_acts_14 : decode cL_acts 14 = .ok (.bipush 16, 2) := by decide +kernel
theorem dL_acts_16 : decode cL_acts 16 = .ok (.irem, 1) := by decide +kernel
theorem dL_acts_17 : decode cL_acts 17 = .ok (.istore_n 3, 1) := by decide +kernel
