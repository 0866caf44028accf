theorem dX8_breaksMadeBy_7 : decode cX8_breaksMadeBy 7 = .ok (.iload_n 1, 1) := by decide +kernel
theorem dX8_breaksMadeBy_8 : decode cX8_breaksMadeBy 8 = .ok (.iconst 4, 1) := by decide +kernel
theorem dX8_breaksMadeBy_9 : decode cX8_breaksMadeBy 9 = .ok (.invokevirtual 108, 3) := by decide +kernel
theorem dX8_breaksMadeBy_12 : decode cX8_breaksMadeBy 12 = .ok (.iconst 1, 1) := by decide +kernel
theorem dX8_breaksMadeBy_13 : decode cX8_breaksMadeBy 13 = .ok (.if_icmp .ne 5, 3) := by decide +kernel
theorem dX8_breaksMadeBy_16 : decode cX8_breaksMadeBy 16 = .ok (.iconst 0, 1) := by decide +kernel
theorem dX8_breaksMadeBy_17 : decode cX8_breaksMadeBy 17 = .ok (.ireturn, 1) := by decide +kernel
theorem dX8_breaksMadeBy_18 : decode cX8_breaksMadeBy 18 = .ok (.aload_n 0, 1) := by decide +kernel
theorem dX8_breaksMadeBy_19 : decode cX8_breaksMadeBy 19 = .ok (.getfield 50, 3) := by decide +kernel
theorem dX8_breaksMadeBy_22 : decode cX8_breaksMadeBy 22 = .ok (.aload_n 0, 1) := by decide +kernel
theorem dX8_breaksMadeBy_23 : decode cX8_breaksMadeBy 23 = .ok (.getfield 10, 3) := by decide +kernel
theorem dX8_breaksMadeBy_26 : decode cX8_breaksMadeBy 26 = .ok (.getfield 73, 3) := by decide +kernel
theorem dX8_breaksMadeBy_29 : decode cX8_breaksMadeBy 29 = .ok (.iload_n 1, 1) := by decide +kernel
theorem dX8_breaksMadeBy_30 : decode cX8_breaksMadeBy 30 = .ok (.iconst 1, 1) := by decide +kernel
theorem dX8_breaksMadeBy_31 : decode cX8_breaksMadeBy 31 = .ok (.invokevirtual 108, 3) := by decide +kernel
theorem dX8_breaksMadeBy_34 : decode cX8_breaksMadeBy 34 = .ok (.iload_n 2, 1) := by decide +kernel
theorem dX8_breaksMadeBy_35 : decode cX8_breaksMadeBy 35 = .ok (.invokevirtual 297, 3) := by decide +kernel
theorem dX8_breaksMadeBy_38 : decode cX8_breaksMadeBy 38 = .ok (.ireturn, 1) := by decide +kernel
theorem dX8_bitsOf_0 : decode cX8_bitsOf 0 = .ok (.fload_n 0, 1) := by decide +kernel
theorem dX8_bitsOf_1 : decode cX8_bitsOf 1 = .ok (.fstore_n 1, 1) := by decide +kernel
theorem dX8_bitsOf_2 : decode cX8_bitsOf 2 = .ok (.bipush 127, 2) := by decide +kernel
theorem dX8_bitsOf_4 : decode cX8_bitsOf 4 = .ok (.istore_n 2, 1) := by decide +kernel
theorem dX8_bitsOf_5 : decode cX8_bitsOf 5 = .ok (.fload_n 1, 1) := by decide +kernel
theorem dX8_bitsOf_6 : decode cX8_bitsOf 6 = .ok (.fconst 2, 1) := by decide +kernel
theorem dX8_bitsOf_7 : decode cX8_bitsOf 7 = .ok (.fcmp .l, 1) := by decide +kernel
theorem dX8_bitsOf_8 : decode cX8_bitsOf 8 = .ok (.ifCond .lt 20, 3) := by decide +kernel
theorem dX8_bitsOf_11 : decode cX8_bitsOf 11 = .ok (.iload_n 2, 1) := by decide +kernel
theorem dX8_bitsOf_12 : decode cX8_bitsOf 12 = .ok (.sipush 254, 3) := by decide +kernel
theorem dX8_bitsOf_15 : decode cX8_bitsOf 15 = .ok (.if_icmp .ge 13, 3) := by decide +kernel
theorem dX8_bitsOf_18 : decode cX8_bitsOf 18 = .ok (.fload_n 1, 1) := by decide +kernel
theorem dX8_bitsOf_19 : decode cX8_bitsOf 19 = .ok (.fconst 2, 1) := by decide +kernel
theorem dX8_bitsOf_20 : decode cX8_bitsOf 20 = .ok (.fdiv, 1) := by decide +kernel
theorem dX8_bitsOf_21 : decode cX8_bitsOf 21 = .ok (.fstore_n 1, 1) := by decide +kernel
theorem dX8_bitsOf_22 : decode cX8_bitsOf 22 = .ok (.iinc 2 1, 3) := by decide +kernel
theorem dX8_bitsOf_25 : decode cX8_bitsOf 25 = .ok (.goto (-20), 3) := by decide +kernel
theorem dX8_bitsOf_28 : decode cX8_bitsOf 28 = .ok (.fload_n 1, 1) := by decide +kernel
theorem dX8_bitsOf_29 : decode cX8_bitsOf 29 = .ok (.fconst 1, 1) := by decide +kernel
theorem dX8_bitsOf_30 : decode cX8_bitsOf 30 = .ok (.fcmp .g, 1) := by decide +kernel
theorem dX8_bitsOf_31 : decode cX8_bitsOf 31 = .ok (.ifCond .ge 18, 3) := by decide +kernel
theorem dX8_bitsOf_34 : decode cX8_bitsOf 34 = .ok (.iload_n 2, 1) := by decide +kernel
theorem dX8_bitsOf_35 : decode cX8_bitsOf 35 = .ok (.iconst 1, 1) := by decide +kernel
theorem dX8_bitsOf_36 : decode cX8_bitsOf 36 = .ok (.if_icmp .le 13, 3) := by decide +kernel
theorem dX8_bitsOf_39 : decode cX8_bitsOf 39 = .ok (.fload_n 1, 1) := by decide +kernel
theorem dX8_bitsOf_40 : decode cX8_bitsOf 40 = .ok (.fconst 2, 1) := by decide +kernel
theorem dX8_bitsOf_41 : decode cX8_bitsOf 41 = .ok (.fmul, 1) := by decide +kernel
theorem dX8_bitsOf_42 : decode cX8_bitsOf 42 = .ok (.fstore_n 1, 1) := by decide +kernel
theorem dX8_bitsOf_43 : decode cX8_bitsOf 43 = .ok (.iinc 2 (-1), 3) := by decide +kernel
theorem dX8_bitsOf_46 : decode cX8_bitsOf 46 = .ok (.goto (-18), 3) := by decide +kernel
theorem dX8_bitsOf_49 : decode cX8_bitsOf 49 = .ok (.iload_n 2, 1) := by decide +kernel
theorem dX8_bitsOf_50 : decode cX8_bitsOf 50 = .ok (.iconst 1, 1) := by decide +kernel
theorem dX8_bitsOf_51 : decode cX8_bitsOf 51 = .ok (.isub, 1) := by decide +kernel
theorem dX8_bitsOf_52 : decode cX8_bitsOf 52 = .ok (.bipush 23, 2) := by decide +kernel
theorem dX8_bitsOf_54 : decode cX8_bitsOf 54 = .ok (.ishl, 1) := by decide +kernel
theorem dX8_bitsOf_55 : decode cX8_bitsOf 55 = .ok (.fload_n 1, 1) := by decide +kernel
theorem dX8_bitsOf_56 : decode cX8_bitsOf 56 = .ok (.ldc_w 298, 3) := by decide +kernel
theorem dX8_bitsOf_59 : decode cX8_bitsOf 59 = .ok (.fmul, 1) := by decide +kernel
theorem dX8_bitsOf_60 : decode cX8_bitsOf 60 = .ok (.f2i, 1) := by decide +kernel
theorem dX8_bitsOf_61 : decode cX8_bitsOf 61 = .ok (.iadd, 1) := by decide +kernel
theorem dX8_bitsOf_62 : decode cX8_bitsOf 62 = .ok (.ireturn, 1) := by decide +kernel
theorem dJ9_max_7cf53_0 : decode cJ9_max_7cf53 0 = .ok (.iload_n 0, 1) := by decide +kernel
theorem dJ9_max_7cf53_1 : decode cJ9_max_7cf53 1 = .ok (.iload_n 1, 1) := by decide +kernel
theorem dJ9_max_7cf53_2 : decode cJ9_max_7cf53 2 = .ok (.if_icmp .lt 7, 3) := by decide +kernel
theorem dJ9_max_7cf53_5 : decode cJ9_max_7cf53 5 = .ok (.iload_n 0, 1) := by decide +kernel
theorem dJ9_max_7cf53_6 : decode cJ9_max_7cf53 6 = .ok (.goto 4, 3) := by decide +kernel
theorem dJ9_max_7cf53_9 : decode cJ9_max_7cf53 9 = .ok (.iload_n 1, 1) := by decide +kernel
theorem dJ9_max_7cf53_10 : decode cJ9_max_7cf53 10 = .ok (.ireturn, 1) := by decide +kernel
theorem dL_cell_0 : decode cL_cell 0 = .ok (.iload_n 1, 1) := by decide +kernel
theorem dL_cell_1 : decode cL_cell 1 = .ok (.aload_n 0, 1) := by decide +kernel
theorem dL_cell_2 : decode cL_cell 2 = .ok (.arraylength, 1) := by decide +kernel
theorem dL_cell_3 : decode cL_cell 3 = .ok (.if_icmp .ge 9, 3) := by decide +kernel
theorem dL_cell_6 : decode cL_cell 6 = .ok (.aload_n 0, 1) := by decide +kernel
theorem dL_cell_7 : decode cL_cell 7 = .ok (.iload_n 1, 1) := by decide +kernel
theorem dL_cell_8 : decode cL_cell 8 = .ok (.iaload, 1) := by decide +kernel
theorem dL_cell_9 : decode cL_cell 9 = .ok (.goto 11, 3) := by decide +kernel
theorem dL_cell_12 : decode cL_cell 12 = .ok (.ldc 7, 2) := by decide +kernel
theorem dL_cell_14 : decode cL_cell 14 = .ok (.iload_n 1, 1) := by decide +kernel
theorem dL_cell_15 : decode cL_cell 15 = .ok (.imul, 1) := by decide +kernel
theorem dL_cell_16 : decode cL_cell 16 = .ok (.sipush 1279, 3) := by decide +kernel
theorem dL_cell_19 : decode cL_cell 19 = .ok (.iadd, 1) := by decide +kernel
theorem dL_cell_20 : decode cL_cell 20 = .ok (.ldc 8, 2) := by decide +kernel
theorem dL_cell_22 : decode cL_cell 22 = .ok (.iand, 1) := by decide +kernel
theorem dL_cell_23 : decode cL_cell 23 = .ok (.ireturn, 1) := by decide +kernel
set_option maxRecDepth 20000 in
theorem ggL_isThread_X8_scene_p0 : GoodIn wsL_isThread [.code yX8_scene cX8_scene 3 (some .int)] := goodIn_r _ [5] (by decide +kernel) (by decide +kernel)
set_option maxRecDepth 20000 in
theorem ggL_isThread_X8_scene_p1 : GoodIn wsL_isThread wsX8_scene_r1 := goodIn_r _ [6, 7, 8, 9, 10, 4, 11, 12, 13, 14, 15, 16, 17, 18, 19, 20, 21, 22, 23, 24, 25, 26, 27, 28] (by decide +kernel) (by decide +kernel)
set_option maxRecDepth 20000 in
theorem ggL_isThread_X8_scene_p2 : GoodIn wsL_isThread wsX8_scene_r2 := goodIn_r _ [29, 30, 31, 32, 33, 34, 35, 36, 37, 38, 39, 40, 41, 42, 43, 44, 45, 46, 47, 48, 49, 50, 51, 52] (by decide +kernel) (by decide +kernel)
set_option maxRecDepth 20000 in
theorem ggL_isThread_X8_scene_p3 : GoodIn wsL_isThread wsX8_scene_r3 := goodIn_r _ [53, 54, 55, 56, 57, 58, 59, 60, 61, 62, 63, 64, 65, 66, 67, 68, 69, 70, 71, 72, 73, 74, 75, 76] (by decide +kernel) (by decide +kernel)
set_option maxRecDepth 20000 in
theorem ggL_isThread_X8_scene_p4 : GoodIn wsL_isThread wsX8_scene_r4 := goodIn_r _ [77, 78, 79, 80, 81, 82, 83, 84, 85, 86, 87, 88, 89, 90, 91, 92, 93, 94, 95, 96, 97, 98, 99, 100] (by decide +kernel) (by decide +kernel)
set_option maxRecDepth 20000 in
theorem ggL_isThread_X8_scene_p5 : GoodIn wsL_isThread wsX8_scene_r5 := goodIn_r _ [101, 102, 103, 104, 105, 106, 107, 108, 109, 110, 111, 112, 113, 114, 115, 116, 117, 118, 119, 120, 121, 122, 123, 124] (by decide +kernel) (by decide +kernel)
set_option maxRecDepth 20000 in
theorem ggL_isThread_X8_scene_p6 : GoodIn wsL_isThread wsX8_scene_r6 := goodIn_r _ [125, 126, 127, 128, 129, 130, 131, 132, 133, 134, 135, 136, 137, 138, 139, 140, 141, 142, 143, 144, 145, 146, 147, 148] (by decide +kernel) (by decide +kernel)
set_option maxRecDepth 20000 in
theorem ggL_isThread_X8_scene_p7 : GoodIn wsL_isThread wsX8_scene_r7 := goodIn_r _ [149, 150, 151, 152, 153, 154, 155, 156, 157, 158, 159, 160, 161, 162, 163, 164, 165, 166, 167, 168, 169] (by decide +kernel) (by decide +kernel)
set_option maxRecDepth 20000 in
theorem ggL_isThread_X8_scene_p8 : GoodIn wsL_isThread wsX80 := goodIn_r _ [290, 291, 292, 293, 294, 295, 296, 297, 298] (by decide +kernel) (by decide +kernel)
set_option maxRecDepth 20000 in
theorem ggL_isThread_X8_scene_p9 : GoodIn wsL_isThread wsX40 := goodIn_r _ [299, 300, 301] (by decide +kernel) (by decide +kernel)
set_option maxRecDepth 20000 in
theorem ggL_isThread_X8_scene_p10 : GoodIn wsL_isThread wsX30 := goodIn_r _ [302, 303, 304, 305, 306, 307, 308, 309, 310, 311] (by decide +kernel) (by decide +kernel)
set_option maxRecDepth 20000 in
theorem ggL_isThread_X8_scene_p11 : GoodIn wsL_isThread wsX10 := goodIn_r _ [312, 313] (by decide +kernel) (by decide +kernel)
set_option maxRecDepth 20000 in
theorem ggL_isThread_X8_scene_p12 : GoodIn wsL_isThread wsX70 := goodIn_r _ [314] (by decide +kernel) (by decide +kernel)
set_option maxRecDepth 20000 in
theorem ggL_isThread_X8_scene_p13 : GoodIn wsL_isThread wsX60 := goodIn_r _ [315, 316] (by decide +kernel) (by decide +kernel)
set_option maxRecDepth 20000 in
theorem ggL_isThread_X8_scene : GoodIn wsL_isThread wsX8_scene := by
  unfold GoodIn wsX8_scene
  exact List.forall_mem_cons.mpr ⟨ggL_isThread_X8_scene_p0 _ (List.mem_singleton.mpr rfl), List.forall_mem_append.mpr ⟨List.forall_mem_append.mpr ⟨List.forall_mem_append.mpr ⟨List.forall_mem_append.mpr ⟨List.forall_mem_append.mpr ⟨List.forall_mem_append.mpr ⟨List.forall_mem_append.mpr ⟨ggL_isThread_X8_scene_p1, List.forall_mem_append.mpr ⟨ggL_isThread_X8_scene_p2, List.forall_mem_append.mpr ⟨ggL_isThread_X8_scene_p3, List.forall_mem_append.mpr ⟨ggL_isThread_X8_scene_p4, List.forall_mem_append.mpr ⟨ggL_isThread_X8_scene_p5, List.forall_mem_append.mpr ⟨ggL_isThread_X8_scene_p6, ggL_isThread_X8_scene_p7⟩⟩⟩⟩⟩⟩, ggL_isThread_X8_scene_p8⟩, ggL_isThread_X8_scene_p9⟩, ggL_isThread_X8_scene_p10⟩, ggL_isThread_X8_scene_p11⟩, ggL_isThread_X8_scene_p12⟩, ggL_isThread_X8_scene_p13⟩⟩
set_option maxRecDepth 20000 in
theorem gL_isThread_X8_scene : GoodIn wsL_isThread (wsV RL 9 RX8 yX8_scene wsX8_scene) := goodIn_app (goodIn_of _ (by decide +kernel)) ggL_isThread_X8_scene
set_option maxRecDepth 20000 in
theorem ggL_isThread_X8_at : GoodIn wsL_isThread wsX8_at := goodIn_r _ [173, 7, 9, 10, 4, 11, 174, 92, 93, 38, 94, 95, 96, 97, 36, 37, 39, 40, 290, 291, 292, 293, 294, 295, 296, 297, 298, 299, 300, 301, 314] (by decide +kernel) (by decide +kernel)
set_option maxRecDepth 20000 in
theorem gL_isThread_X8_at : GoodIn wsL_isThread (wsV RL 15 RX8 yX8_at wsX8_at) := goodIn_app (goodIn_of _ (by decide +kernel)) ggL_isThread_X8_at
set_option maxRecDepth 20000 in
theorem ggL_isThread_X8_card : GoodIn wsL_isThread wsX8_card := goodIn_r _ [178, 7, 6, 179, 42, 43, 26, 44, 28, 180, 54, 55, 56, 57, 58, 59, 60, 61, 12, 13, 14, 15, 16, 17, 18, 19, 20, 21, 22, 23, 24, 25, 27, 29, 30, 31, 32, 33, 34, 35, 36, 37, 38, 39, 40, 41, 45, 46, 47, 48, 49, 50, 51, 52, 53, 62, 4, 63, 64, 65, 66, 67, 68, 69, 70, 71, 72, 73, 74, 75, 76, 181, 182, 183, 184, 185, 186, 187, 188, 124, 125, 126, 127, 189, 121, 122, 123, 190, 191, 192, 193, 194, 137, 138, 139, 195, 145, 146, 147, 196, 290, 291, 292, 293, 294, 295, 296, 297, 298, 299, 300, 301, 312, 313, 302, 303, 304, 305, 306, 307, 308, 309, 310, 311, 314] (by decide +kernel) (by decide +kernel)
set_option maxRecDepth 20000 in
theorem gL_isThread_X8_card : GoodIn wsL_isThread (wsV RL 18 RX8 yX8_card wsX8_card) := goodIn_app (goodIn_of _ (by decide +kernel)) ggL_isThread_X8_card
set_option maxRecDepth 20000 in
theorem ggL_isThread_X8_count_p0 : GoodIn wsL_isThread [.code yX8_count cX8_count 2 (some .int)] := goodIn_r _ [200] (by decide +kernel) (by decide +kernel)
set_option maxRecDepth 20000 in
theorem ggL_isThread_X8_count_p1 : GoodIn wsL_isThread wsX8_count_r1 := goodIn_r _ [7, 6, 8, 201, 202, 203, 30, 31, 32, 33, 34, 12, 13, 14, 15, 16, 17, 18, 19, 20, 21, 22, 23, 24] (by decide +kernel) (by decide +kernel)
set_option maxRecDepth 20000 in
theorem ggL_isThread_X8_count_p2 : GoodIn wsL_isThread wsX8_count_r2 := goodIn_r _ [25, 26, 27, 28, 29, 35, 36, 37, 38, 39, 40, 41, 42, 43, 44, 45, 46, 47, 48, 49, 50, 51, 52, 53] (by decide +kernel) (by decide +kernel)
set_option maxRecDepth 20000 in
theorem ggL_isThread_X8_count_p3 : GoodIn wsL_isThread wsX8_count_r3 := goodIn_r _ [54, 55, 56, 57, 58, 59, 60, 61, 62, 4, 63, 64, 65, 66, 67, 68, 69, 70, 71, 72, 73, 74, 75, 76] (by decide +kernel) (by decide +kernel)
set_option maxRecDepth 20000 in
theorem ggL_isThread_X8_count_p4 : GoodIn wsL_isThread wsX8_count_r4 := goodIn_r _ [204, 205, 206, 207, 208, 209, 210, 211, 212, 213, 214, 215, 97, 216, 217, 218, 219, 160, 88, 89, 90, 91, 92, 93] (by decide +kernel) (by decide +kernel)
set_option maxRecDepth 20000 in
theorem ggL_isThread_X8_count_p5 : GoodIn wsL_isThread wsX8_count_r5 := goodIn_r _ [94, 10, 11, 95, 96, 112, 113, 114, 115, 116, 117, 118, 119, 120, 121, 122, 123, 124, 125, 126, 127, 128, 129, 130] (by decide +kernel) (by decide +kernel)
set_option maxRecDepth 20000 in
theorem ggL_isThread_X8_count_p6 : GoodIn wsL_isThread wsX8_count_r6 := goodIn_r _ [131, 132, 133, 134, 135, 136, 137, 138, 139, 140, 141, 142, 143, 144, 145, 146, 147, 148, 149, 150, 151, 220, 221, 222] (by decide +kernel) (by decide +kernel)
set_option maxRecDepth 20000 in
theorem ggL_isThread_X8_count_p7 : GoodIn wsL_isThread wsX8_count_r7 := goodIn_r _ [223, 224, 157, 158, 159, 161, 162, 163, 164, 77, 78, 79, 80, 81, 82, 83, 84, 85, 86, 87, 98, 99, 100, 101] (by decide +kernel) (by decide +kernel)
set_option maxRecDepth 20000 in
theorem ggL_isThread_X8_count_p8 : GoodIn wsL_isThread wsX8_count_r8 := goodIn_r _ [102, 103, 104, 105, 106, 107, 108, 109, 110, 225, 226, 227, 228, 229, 230, 231, 232, 233, 234, 235, 236, 237, 238, 239] (by decide +kernel) (by decide +kernel)
set_option maxRecDepth 20000 in
theorem ggL_isThread_X8_count_p9 : GoodIn wsL_isThread wsX8_count_r9 := goodIn_r _ [240, 241, 242, 243, 244, 245, 246, 247, 248] (by decide +kernel) (by decide +kernel)
set_option maxRecDepth 20000 in
theorem ggL_isThread_X8_count_p10 : GoodIn wsL_isThread wsX80 := goodIn_r _ [290, 291, 292, 293, 294, 295, 296, 297, 298] (by decide +kernel) (by decide +kernel)
set_option maxRecDepth 20000 in
theorem ggL_isThread_X8_count_p11 : GoodIn wsL_isThread wsX40 := goodIn_r _ [299, 300, 301] (by decide +kernel) (by decide +kernel)
set_option maxRecDepth 20000 in
theorem ggL_isThread_X8_count_p12 : GoodIn wsL_isThread wsX30 := goodIn_r _ [302, 303, 304, 305, 306, 307, 308, 309, 310, 311] (by decide +kernel) (by decide +kernel)
set_option maxRecDepth 20000 in
theorem ggL_isThread_X8_count_p13 : GoodIn wsL_isThread wsX10 := goodIn_r _ [312, 313] (by decide +kernel) (by decide +kernel)
set_option maxRecDepth 20000 in
theorem ggL_isThread_X8_count_p14 : GoodIn wsL_isThread wsX70 := goodIn_r _ [314] (by decide +kernel) (by decide +kernel)
set_option maxRecDepth 20000 in
theorem ggL_isThread_X8_count_p15 : GoodIn wsL_isThread wsX60 := goodIn_r _ [315, 316] (by decide +kernel) (by decide +kernel)
set_option maxRecDepth 20000 in
theorem ggL_isThread_X8_count_p16 : GoodIn wsL_isThread wsX20 := goodIn_r _ [317, 318, 319] (by decide +kernel) (by decide +kernel)
set_option maxRecDepth 20000 in
theorem ggL_isThread_X8_count_p17 : GoodIn wsL_isThread wsX00 := goodIn_r _ [320, 321, 322, 323, 324] (by decide +kernel) (by decide +kernel)
set_option maxRecDepth 20000 in
theorem ggL_isThread_X8_count : GoodIn wsL_isThread wsX8_count := by
  unfold GoodIn wsX8_count
  exact List.forall_mem_cons.mpr ⟨ggL_isThread_X8_count_p0 _ (List.mem_singleton.mpr rfl), List.forall_mem_append.mpr ⟨List.forall_mem_append.mpr ⟨List.forall_mem_append.mpr ⟨List.forall_mem_append.mpr ⟨List.forall_mem_append.mpr ⟨List.forall_mem_append.mpr ⟨List.forall_mem_append.mpr ⟨List.forall_mem_append.mpr ⟨List.forall_mem_append.mpr ⟨ggL_isThread_X8_count_p1, List.forall_mem_append.mpr ⟨ggL_isThread_X8_count_p2, List.forall_mem_append.mpr ⟨ggL_isThread_X8_count_p3, List.forall_mem_append.mpr ⟨ggL_isThread_X8_count_p4, List.forall_mem_append.mpr ⟨ggL_isThread_X8_count_p5, List.forall_mem_append.mpr ⟨ggL_isThread_X8_count_p6, List.forall_mem_append.mpr ⟨ggL_isThread_X8_count_p7, List.forall_mem_append.mpr ⟨ggL_isThread_X8_count_p8, ggL_isThread_X8_count_p9⟩⟩⟩⟩⟩⟩⟩⟩, ggL_isThread_X8_count_p10⟩, ggL_isThread_X8_count_p11⟩, ggL_isThread_X8_count_p12⟩, ggL_isThread_X8_count_p13⟩, ggL_isThread_X8_count_p14⟩, ggL_isThread_X8_count_p15⟩, ggL_isThread_X8_count_p16⟩, ggL_isThread_X8_count_p17⟩⟩
set_option maxRecDepth 20000 in
theorem gL_isThread_X8_count : GoodIn wsL_isThread (wsV RL 21 RX8 yX8_count wsX8_count) := goodIn_app (goodIn_of _ (by decide +kernel)) ggL_isThread_X8_count
set_option maxRecDepth 20000 in
theorem ggL_isThread_X8_thread_p0 : GoodIn wsL_isThread [.code yX8_thread cX8_thread 3 (some .int)] := goodIn_r _ [252] (by decide +kernel) (by decide +kernel)
set_option maxRecDepth 20000 in
theorem ggL_isThread_X8_thread_p1 : GoodIn wsL_isThread wsX8_thread_r1 := goodIn_r _ [6, 7, 253, 254, 62, 4, 63, 12, 13, 14, 15, 16, 17, 18, 19, 20, 21, 22, 23, 24, 25, 26, 27, 28] (by decide +kernel) (by decide +kernel)
set_option maxRecDepth 20000 in
theorem ggL_isThread_X8_thread_p2 : GoodIn wsL_isThread wsX8_thread_r2 := goodIn_r _ [29, 30, 31, 32, 33, 34, 35, 36, 37, 38, 39, 40, 41, 42, 43, 44, 45, 46, 47, 48, 49, 50, 51, 52] (by decide +kernel) (by decide +kernel)
set_option maxRecDepth 20000 in
theorem ggL_isThread_X8_thread_p3 : GoodIn wsL_isThread wsX8_thread_r3 := goodIn_r _ [53, 54, 55, 56, 57, 58, 59, 60, 61, 64, 65, 66, 67, 68, 69, 70, 71, 72, 73, 74, 75, 76, 112, 113] (by decide +kernel) (by decide +kernel)
set_option maxRecDepth 20000 in
theorem ggL_isThread_X8_thread_p4 : GoodIn wsL_isThread wsX8_thread_r4 := goodIn_r _ [114, 115, 116, 117, 118, 119, 120, 121, 122, 123, 124, 125, 126, 127, 128, 129, 130, 131, 132, 133, 134, 135, 136, 137] (by decide +kernel) (by decide +kernel)
set_option maxRecDepth 20000 in
theorem ggL_isThread_X8_thread_p5 : GoodIn wsL_isThread wsX8_thread_r5 := goodIn_r _ [138, 139, 140, 141, 142, 143, 144, 145, 146, 147, 148, 149, 150, 151, 255, 256, 257, 258, 259, 260, 261, 262, 263, 264] (by decide +kernel) (by decide +kernel)
set_option maxRecDepth 20000 in
theorem ggL_isThread_X8_thread_p6 : GoodIn wsL_isThread wsX8_thread_r6 := goodIn_r _ [265, 266, 267, 268, 269, 270, 271, 272, 273, 274, 275, 186, 187, 188, 276, 277, 278, 279, 280, 281, 282, 283, 284, 285] (by decide +kernel) (by decide +kernel)
set_option maxRecDepth 20000 in
theorem ggL_isThread_X8_thread_p7 : GoodIn wsL_isThread wsX8_thread_r7 := goodIn_r _ [286, 287, 288, 289, 230, 231, 232] (by decide +kernel) (by decide +kernel)
set_option maxRecDepth 20000 in
theorem ggL_isThread_X8_thread_p8 : GoodIn wsL_isThread wsX80 := goodIn_r _ [290, 291, 292, 293, 294, 295, 296, 297, 298] (by decide +kernel) (by decide +kernel)
set_option maxRecDepth 20000 in
theorem ggL_isThread_X8_thread_p9 : GoodIn wsL_isThread wsX40 := goodIn_r _ [299, 300, 301] (by decide +kernel) (by decide +kernel)
set_option maxRecDepth 20000 in
theorem ggL_isThread_X8_thread_p10 : GoodIn wsL_isThread wsX30 := goodIn_r _ [302, 303, 304, 305, 306, 307, 308, 309, 310, 311] (by decide +kernel) (by decide +kernel)
set_option maxRecDepth 20000 in
theorem ggL_isThread_X8_thread_p11 : GoodIn wsL_isThread wsX10 := goodIn_r _ [312, 313] (by decide +kernel) (by decide +kernel)
set_option maxRecDepth 20000 in
theorem ggL_isThread_X8_thread_p12 : GoodIn wsL_isThread wsX70 := goodIn_r _ [314] (by decide +kernel) (by decide +kernel)
set_option maxRecDepth 20000 in
theorem ggL_isThread_X8_thread_p13 : GoodIn wsL_isThread wsX50 := goodIn_r _ [325, 326, 327, 328, 329, 330, 331] (by decide +kernel) (by decide +kernel)
set_option maxRecDepth 20000 in
theorem ggL_isThread_X8_thread : GoodIn wsL_isThread wsX8_thread := by
  unfold GoodIn wsX8_thread
  exact List.forall_mem_cons.mpr ⟨ggL_isThread_X8_thread_p0 _ (List.mem_singleton.mpr rfl), List.forall_mem_append.mpr ⟨List.forall_mem_append.mpr ⟨List.forall_mem_append.mpr ⟨List.forall_mem_append.mpr ⟨List.forall_mem_append.mpr ⟨List.forall_mem_append.mpr ⟨List.forall_mem_append.mpr ⟨ggL_isThread_X8_thread_p1, List.forall_mem_append.mpr ⟨ggL_isThread_X8_thread_p2, List.forall_mem_append.mpr ⟨ggL_isThread_X8_thread_p3, List.forall_mem_append.mpr ⟨ggL_isThread_X8_thread_p4, List.forall_mem_append.mpr ⟨ggL_isThread_X8_thread_p5, List.forall_mem_append.mpr ⟨ggL_isThread_X8_thread_p6, ggL_isThread_X8_thread_p7⟩⟩⟩⟩⟩⟩, ggL_isThread_X8_thread_p8⟩, ggL_isThread_X8_thread_p9⟩, ggL_isThread_X8_thread_p10⟩, ggL_isThread_X8_thread_p11⟩, ggL_isThread_X8_thread_p12⟩, ggL_isThread_X8_thread_p13⟩⟩
set_option maxRecDepth 20000 in
theorem gL_isThread_X8_thread : GoodIn wsL_isThread (wsV RL 25 RX8 yX8_thread wsX8_thread) := goodIn_app (goodIn_of _ (by decide +kernel)) ggL_isThread_X8_thread
theorem dL_isThread_0 : decode cL_isThread 0 = .ok (.iconst 0, 1) := by decide +kernel
theorem dL_isThread_1 : decode cL_isThread 1 = .ok (.istore_n 2, 1) := by decide +kernel
theorem dL_isThread_2 : decode cL_isThread 2 = .ok (.iconst 0, 1) := by decide +kernel
theorem dL_isThread_3 : decode cL_isThread 3 = .ok (.istore_n 3, 1) := by decide +kernel
theorem dL_isThread_4 : decode cL_isThread 4 = .ok (.iconst 0, 1) := by decide +kernel
theorem dL_isThread_5 : decode cL_isThread 5 = .ok (.istore 4, 2) := by decide +kernel
theorem dL_isThread_7 : decode cL_isThread 7 = .ok (.iconst 0, 1) := by decide +kernel
theorem dL_isThread_8 : decode cL_isThread 8 = .ok (.istore 5, 2) := by decide +kernel
theorem dL_isThread_10 : decode cL_isThread 10 = .ok (.iconst 0, 1) := by decide +kernel
theorem dL_isThread_11 : decode cL_isThread 11 = .ok (.istore 6, 2) := by decide +kernel
theorem dL_isThread_13 : decode cL_isThread 13 = .ok (.iconst 0, 1) := by decide +kernel
theorem dL_isThread_14 : decode cL_isThread 14 = .ok (.istore 7, 2) := by decide +kernel
theorem dL_isThread_16 : decode cL_isThread 16 = .ok (.bipush (-5), 2) := by decide +kernel
theorem dL_isThread_18 : decode cL_isThread 18 = .ok (.istore 8, 2) := by decide +kernel
theorem dL_isThread_20 : decode cL_isThread 20 = .ok (.bipush (-5), 2) := by decide +kernel
theorem dL_isThread_22 : decode cL_isThread 22 = .ok (.istore 9, 2) := by decide +kernel
theorem dL_isThread_24 : decode cL_isThread 24 = .ok (.iconst 1, 1) := by decide +kernel
theorem dL_isThread_25 : decode cL_isThread 25 = .ok (.istore 10, 2) := by decide +kernel
theorem dL_isThread_27 : decode cL_isThread 27 = .ok (.iconst 0, 1) := by decide +kernel
theorem dL_isThread_28 : decode cL_isThread 28 = .ok (.istore 11, 2) := by decide +kernel
theorem dL_isThread_30 : decode cL_isThread 30 = .ok (.iload 11, 2) := by decide +kernel
theorem dL_isThread_32 : decode cL_isThread 32 = .ok (.bipush 16, 2) := by decide +kernel
theorem dL_isThread_34 : decode cL_isThread 34 = .ok (.if_icmp .ge 276, 3) := by decide +kernel
theorem dL_isThread_37 : decode cL_isThread 37 = .ok (.iconst 0, 1) := by decide +kernel
theorem dL_isThread_38 : decode cL_isThread 38 = .ok (.istore 12, 2) := by decide +kernel
theorem dL_isThread_40 : decode cL_isThread 40 = .ok (.iload 12, 2) := by decide +kernel
theorem dL_isThread_42 : decode cL_isThread 42 = .ok (.aload_n 0, 1) := by decide +kernel
theorem dL_isThread_43 : decode cL_isThread 43 = .ok (.iload 11, 2) := by decide +kernel
theorem dL_isThread_45 : decode cL_isThread 45 = .ok (.iconst 0, 1) := by decide +kernel
theorem dL_isThread_46 : decode cL_isThread 46 = .ok (.invokevirtual 9, 3) := by decide +kernel
theorem dL_isThread_49 : decode cL_isThread 49 = .ok (.if_icmp .ge 255, 3) := by decide +kernel
theorem dL_isThread_52 : decode cL_isThread 52 = .ok (.iload 10, 2) := by decide +kernel
theorem dL_isThread_54 : decode cL_isThread 54 = .ok (.ifCond .eq 250, 3) := by decide +kernel
theorem dL_isThread_57 : decode cL_isThread 57 = .ok (.aload_n 0, 1) := by decide +kernel
theorem dL_isThread_58 : decode cL_isThread 58 = .ok (.iload 11, 2) := by decide +kernel
theorem dL_isThread_60 : decode cL_isThread 60 = .ok (.iload 12, 2) := by decide +kernel
theorem dL_isThread_62 : decode cL_isThread 62 = .ok (.invokevirtual 15, 3) := by decide +kernel
theorem dL_isThread_65 : decode cL_isThread 65 = .ok (.istore 13, 2) := by decide +kernel
theorem dL_isThread_67 : decode cL_isThread 67 = .ok (.aload_n 0, 1) := by decide +kernel
theorem dL_isThread_68 : decode cL_isThread 68 = .ok (.iload 13, 2) := by decide +kernel
theorem dL_isThread_70 : decode cL_isThread 70 = .ok (.iconst 0, 1) := by decide +kernel
theorem dL_isThread_71 : decode cL_isThread 71 = .ok (.invokevirtual 18, 3) := by decide +kernel
theorem dL_isThread_74 : decode cL_isThread 74 = .ok (.iload_n 1, 1) := by decide +kernel
theorem dL_isThread_75 : decode cL_isThread 75 = .ok (.if_icmp .ne 223, 3) := by decide +kernel
theorem dL_isThread_78 : decode cL_isThread 78 = .ok (.iinc 2 1, 3) := by decide +kernel
theorem dL_isThread_81 : decode cL_isThread 81 = .ok (.iload 7, 2) := by decide +kernel
theorem dL_isThread_83 : decode cL_isThread 83 = .ok (.aload_n 0, 1) := by decide +kernel
theorem dL_isThread_84 : decode cL_isThread 84 = .ok (.iload 13, 2) := by decide +kernel
theorem dL_isThread_86 : decode cL_isThread 86 = .ok (.iconst 2, 1) := by decide +kernel
theorem dL_isThread_87 : decode cL_isThread 87 = .ok (.invokevirtual 18, 3) := by decide +kernel
theorem dL_isThread_90 : decode cL_isThread 90 = .ok (.iadd, 1) := by decide +kernel
theorem dL_isThread_91 : decode cL_isThread 91 = .ok (.istore 7, 2) := by decide +kernel
theorem dL_isThread_93 : decode cL_isThread 93 = .ok (.aload_n 0, 1) := by decide +kernel
theorem dL_isThread_94 : decode cL_isThread 94 = .ok (.iload 13, 2) := by decide +kernel
theorem dL_isThread_96 : decode cL_isThread 96 = .ok (.bipush 9, 2) := by decide +kernel
theorem dL_isThread_98 : decode cL_isThread 98 = .ok (.invokevirtual 18, 3) := by decide +kernel
theorem dL_isThread_101 : decode cL_isThread 101 = .ok (.iload 8, 2) := by decide +kernel
theorem dL_isThread_103 : decode cL_isThread 103 = .ok (.if_icmp .ne 7, 3) := by decide +kernel
theorem dL_isThread_106 : decode cL_isThread 106 = .ok (.iconst 1, 1) := by decide +kernel
theorem dL_isThread_107 : decode cL_isThread 107 = .ok (.goto 4, 3) := by decide +kernel
theorem dL_isThread_110 : decode cL_isThread 110 = .ok (.iconst 0, 1) := by decide +kernel
theorem dL_isThread_111 : decode cL_isThread 111 = .ok (.istore 10, 2) := by decide +kernel
theorem dL_isThread_113 : decode cL_isThread 113 = .ok (.iload 5, 2) := by decide +kernel
theorem dL_isThread_115 : decode cL_isThread 115 = .ok (.iload 8, 2) := by decide +kernel
theorem dL_isThread_117 : decode cL_isThread 117 = .ok (.ifCond .lt 28, 3) := by decide +kernel
theorem dL_isThread_120 : decode cL_isThread 120 = .ok (.iload 11, 2) := by decide +kernel
theorem dL_isThread_122 : decode cL_isThread 122 = .ok (.aload_n 0, 1) := by decide +kernel
theorem dL_isThread_123 : decode cL_isThread 123 = .ok (.iload 8, 2) := by decide +kernel
theorem dL_isThread_125 : decode cL_isThread 125 = .ok (.iconst 5, 1) := by decide +kernel
theorem dL_isThread_126 : decode cL_isThread 126 = .ok (.invokevirtual 18, 3) := by decide +kernel
theorem dL_isThread_129 : decode cL_isThread 129 = .ok (.isub, 1) := by decide +kernel
theorem dL_isThread_130 : decode cL_isThread 130 = .ok (.iconst 1, 1) := by decide +kernel
theorem dL_isThread_131 : decode cL_isThread 131 = .ok (.isub, 1) := by decide +kernel
theorem dL_isThread_132 : decode cL_isThread 132 = .ok (.aload_n 0, 1) := by decide +kernel
theorem dL_isThread_133 : decode cL_isThread 133 = .ok (.bipush 10, 2) := by decide +kernel
theorem dL_isThread_135 : decode cL_isThread 135 = .ok (.invokevirtual 21, 3) := by decide +kernel
theorem dL_isThread_138 : decode cL_isThread 138 = .ok (.if_icmp .le 7, 3) := by decide +kernel
theorem dL_isThread_141 : decode cL_isThread 141 = .ok (.iconst 1, 1) := by decide +kernel
theorem dL_isThread_142 : decode cL_isThread 142 = .ok (.goto 4, 3) := by decide +kernel
theorem dL_isThread_145 : decode cL_isThread 145 = .ok (.iconst 0, 1) := by decide +kernel
theorem dL_isThread_146 : decode cL_isThread 146 = .ok (.iadd, 1) := by decide +kernel
theorem dL_isThread_147 : decode cL_isThread 147 = .ok (.istore 5, 2) := by decide +kernel
theorem dL_isThread_149 : decode cL_isThread 149 = .ok (.iload 13, 2) := by decide +kernel
theorem dL_isThread_151 : decode cL_isThread 151 = .ok (.istore 8, 2) := by decide +kernel
theorem dL_isThread_153 : decode cL_isThread 153 = .ok (.aload_n 0, 1) := by decide +kernel
theorem dL_isThread_154 : decode cL_isThread 154 = .ok (.iload 13, 2) := by decide +kernel
theorem dL_isThread_156 : decode cL_isThread 156 = .ok (.iconst 4, 1) := by decide +kernel
theorem dL_isThread_157 : decode cL_isThread 157 = .ok (.invokevirtual 18, 3) := by decide +kernel
theorem dL_isThread_160 : decode cL_isThread 160 = .ok (.iconst 1, 1) := by decide +kernel
theorem dL_isThread_161 : decode cL_isThread 161 = .ok (.if_icmp .ne 7, 3) := by decide +kernel
theorem dL_isThread_164 : decode cL_isThread 164 = .ok (.iconst 1, 1) := by decide +kernel
theorem dL_isThread_165 : decode cL_isThread 165 = .ok (.goto 4, 3) := by decide +kernel
theorem dL_isThread_168 : decode cL_isThread 168 = .ok (.iconst 0, 1) := by decide +kernel
theorem dL_isThread_169 : decode cL_isThread 169 = .ok (.istore 14, 2) := by decide +kernel
theorem dL_isThread_171 : decode cL_isThread 171 = .ok (.iload 14, 2) := by decide +kernel
theorem dL_isThread_173 : decode cL_isThread 173 = .ok (.ifCond .ne 8, 3) := by decide +kernel
theorem dL_isThread_176 : decode cL_isThread 176 = .ok (.iload 9, 2) := by decide +kernel
theorem dL_isThread_178 : decode cL_isThread 178 = .ok (.ifCond .ge 7, 3) := by decide +kernel
theorem dL_isThread_181 : decode cL_isThread 181 = .ok (.iconst 0, 1) := by decide +kernel
theorem dL_isThread_182 : decode cL_isThread 182 = .ok (.goto 18, 3) := by decide +kernel
theorem dL_isThread_185 : decode cL_isThread 185 = .ok (.aload_n 0, 1) := by decide +kernel
theorem dL_isThread_186 : decode cL_isThread 186 = .ok (.iload 13, 2) := by decide +kernel
theorem dL_isThread_188 : decode cL_isThread 188 = .ok (.iconst 1, 1) := by decide +kernel
theorem dL_isThread_189 : decode cL_isThread 189 = .ok (.invokevirtual 18, 3) := by decide +kernel
theorem dL_isThread_192 : decode cL_isThread 192 = .ok (.aload_n 0, 1) := by decide +kernel
theorem dL_isThread_193 : decode cL_isThread 193 = .ok (.iload 9, 2) := by decide +kernel
theorem dL_isThread_195 : decode cL_isThread 195 = .ok (.iconst 1, 1) := by decide +kernel
theorem dL_isThread_196 : decode cL_isThread 196 = .ok (.invokevirtual 18, 3) := by decide +kernel
theorem dL_isThread_199 : decode cL_isThread 199 = .ok (.isub, 1) := by decide +kernel
theorem dL_isThread_200 : decode cL_isThread 200 = .ok (.istore 15, 2) := by decide +kernel
theorem dL_isThread_202 : decode cL_isThread 202 = .ok (.iload 10, 2) := by decide +kernel
theorem dL_isThread_204 : decode cL_isThread 204 = .ok (.ifCond .eq 28, 3) := by decide +kernel
theorem dL_isThread_207 : decode cL_isThread 207 = .ok (.aload_n 0, 1) := by decide +kernel
theorem dL_isThread_208 : decode cL_isThread 208 = .ok (.iload 13, 2) := by decide +kernel
theorem dL_isThread_210 : decode cL_isThread 210 = .ok (.bipush 7, 2) := by decide +kernel
theorem dL_isThread_212 : decode cL_isThread 212 = .ok (.invokevirtual 18, 3) := by decide +kernel
theorem dL_isThread_215 : decode cL_isThread 215 = .ok (.iload 15, 2) := by decide +kernel
theorem dL_isThread_217 : decode cL_isThread 217 = .ok (.ifCond .ge 7, 3) := by decide +kernel
theorem dL_isThread_220 : decode cL_isThread 220 = .ok (.iconst 1, 1) := by decide +kernel
theorem dL_isThread_221 : decode cL_isThread 221 = .ok (.goto 4, 3) := by decide +kernel
theorem dL_isThread_224 : decode cL_isThread 224 = .ok (.iconst 0, 1) := by decide +kernel
theorem dL_isThread_225 : decode cL_isThread 225 = .ok (.if_icmp .ne 7, 3) := by decide +kernel
theorem dL_isThread_228 : decode cL_isThread 228 = .ok (.iconst 1, 1) := by decide +kernel
theorem dL_isThread_229 : decode cL_isThread 229 = .ok (.goto 4, 3) := by decide +kernel
theorem dL_isThread_232 : decode cL_isThread 232 = .ok (.iconst 0, 1) := by decide +kernel
theorem dL_isThread_233 : decode cL_isThread 233 = .ok (.istore 10, 2) := by decide +kernel
theorem dL_isThread_235 : decode cL_isThread 235 = .ok (.iload 4, 2) := by decide +kernel
theorem dL_isThread_237 : decode cL_isThread 237 = .ok (.iload 15, 2) := by decide +kernel
theorem dL_isThread_239 : decode cL_isThread 239 = .ok (.ifCond .ge 7, 3) := by decide +kernel
theorem dL_isThread_242 : decode cL_isThread 242 = .ok (.iconst 1, 1) := by decide +kernel
theorem dL_isThread_243 : decode cL_isThread 243 = .ok (.goto 4, 3) := by decide +kernel
theorem dL_isThread_246 : decode cL_isThread 246 = .ok (.iconst 0, 1) := by decide +kernel
theorem dL_isThread_247 : decode cL_isThread 247 = .ok (.iadd, 1) := by decide +kernel
theorem dL_isThread_248 : decode cL_isThread 248 = .ok (.istore 4, 2) := by decide +kernel
theorem dL_isThread_250 : decode cL_isThread 250 = .ok (.iload 6, 2) := by decide +kernel
theorem dL_isThread_252 : decode cL_isThread 252 = .ok (.iload 15, 2) := by decide +kernel
theorem dL_isThread_254 : decode cL_isThread 254 = .ok (.aload_n 0, 1) := by decide +kernel
theorem dL_isThread_255 : decode cL_isThread 255 = .ok (.bipush 11, 2) := by decide +kernel
theorem dL_isThread_257 : decode cL_isThread 257 = .ok (.invokevirtual 21, 3) := by decide +kernel
theorem dL_isThread_260 : decode cL_isThread 260 = .ok (.if_icmp .le 7, 3) := by decide +kernel
theorem dL_isThread_263 : decode cL_isThread 263 = .ok (.iconst 1, 1) := by decide +kernel
theorem dL_isThread_264 : decode cL_isThread 264 = .ok (.goto 4, 3) := by decide +kernel
theorem dL_isThread_267 : decode cL_isThread 267 = .ok (.iconst 0, 1) := by decide +kernel
theorem dL_isThread_268 : decode cL_isThread 268 = .ok (.iadd, 1) := by decide +kernel
theorem dL_isThread_269 : decode cL_isThread 269 = .ok (.istore 6, 2) := by decide +kernel
theorem dL_isThread_271 : decode cL_isThread 271 = .ok (.iload_n 3, 1) := by decide +kernel
theorem dL_isThread_272 : decode cL_isThread 272 = .ok (.iload 14, 2) := by decide +kernel
theorem dL_isThread_274 : decode cL_isThread 274 = .ok (.ifCond .eq 7, 3) := by decide +kernel
theorem dL_isThread_277 : decode cL_isThread 277 = .ok (.iconst 0, 1) := by decide +kernel
theorem dL_isThread_278 : decode cL_isThread 278 = .ok (.goto 4, 3) := by decide +kernel
theorem dL_isThread_281 : decode cL_isThread 281 = .ok (.iconst 1, 1) := by decide +kernel
theorem dL_isThread_282 : decode cL_isThread 282 = .ok (.iadd, 1) := by decide +kernel
theorem dL_isThread_283 : decode cL_isThread 283 = .ok (.istore_n 3, 1) := by decide +kernel
theorem dL_isThread_284 : decode cL_isThread 284 = .ok (.iload 14, 2) := by decide +kernel
theorem dL_isThread_286 : decode cL_isThread 286 = .ok (.ifCond .eq 8, 3) := by decide +kernel
theorem dL_isThread_289 : decode cL_isThread 289 = .ok (.iload 9, 2) := by decide +kernel
theorem dL_isThread_291 : decode cL_isThread 291 = .ok (.goto 5, 3) := by decide +kernel
theorem dL_isThread_294 : decode cL_isThread 294 = .ok (.iload 13, 2) := by decide +kernel
theorem dL_isThread_296 : decode cL_isThread 296 = .ok (.istore 9, 2) := by decide +kernel
theorem dL_isThread_298 : decode cL_isThread 298 = .ok (.iinc 12 1, 3) := by decide +kernel
theorem dL_isThread_301 : decode cL_isThread 301 = .ok (.goto (-261), 3) := by decide +kernel
theorem dL_isThread_304 : decode cL_isThread 304 = .ok (.iinc 11 1, 3) := by decide +kernel
theorem dL_isThread_307 : decode cL_isThread 307 = .ok (.goto (-277), 3) := by decide +kernel
theorem dL_isThread_310 : decode cL_isThread 310 = .ok (.aload_n 0, 1) := by decide +kernel
theorem dL_isThread_311 : decode cL_isThread 311 = .ok (.iload_n 1, 1) := by decide +kernel
theorem dL_isThread_312 : decode cL_isThread 312 = .ok (.iconst 4, 1) := by decide +kernel
theorem dL_isThread_313 : decode cL_isThread 313 = .ok (.invokevirtual 25, 3) := by decide +kernel
theorem dL_isThread_316 : decode cL_isThread 316 = .ok (.istore 11, 2) := by decide +kernel
theorem dL_isThread_318 : decode cL_isThread 318 = .ok (.iload 10, 2) := by decide +kernel
theorem dL_isThread_320 : decode cL_isThread 320 = .ok (.ifCond .eq 73, 3) := by decide +kernel
theorem dL_isThread_323 : decode cL_isThread 323 = .ok (.iload_n 2, 1) := by decide +kernel
theorem dL_isThread_324 : decode cL_isThread 324 = .ok (.aload_n 0, 1) := by decide +kernel
theorem dL_isThread_325 : decode cL_isThread 325 = .ok (.iload_n 1, 1) := by decide +kernel
theorem dL_isThread_326 : decode cL_isThread 326 = .ok (.iconst 0, 1) := by decide +kernel
theorem dL_isThread_327 : decode cL_isThread 327 = .ok (.invokevirtual 25, 3) := by decide +kernel
theorem dL_isThread_330 : decode cL_isThread 330 = .ok (.if_icmp .ne 63, 3) := by decide +kernel
theorem dL_isThread_333 : decode cL_isThread 333 = .ok (.iload_n 3, 1) := by decide +kernel
theorem dL_isThread_334 : decode cL_isThread 334 = .ok (.aload_n 0, 1) := by decide +kernel
theorem dL_isThread_335 : decode cL_isThread 335 = .ok (.iload_n 1, 1) := by decide +kernel
theorem dL_isThread_336 : decode cL_isThread 336 = .ok (.iconst 2, 1) := by decide +kernel
theorem dL_isThread_337 : decode cL_isThread 337 = .ok (.invokevirtual 25, 3) := by decide +kernel
theorem dL_isThread_340 : decode cL_isThread 340 = .ok (.if_icmp .ne 53, 3) := by decide +kernel
theorem dL_isThread_343 : decode cL_isThread 343 = .ok (.iload 4, 2) := by decide +kernel
theorem dL_isThread_345 : decode cL_isThread 345 = .ok (.aload_n 0, 1) := by decide +kernel
theorem dL_isThread_346 : decode cL_isThread 346 = .ok (.iload_n 1, 1) := by decide +kernel
theorem dL_isThread_347 : decode cL_isThread 347 = .ok (.iconst 3, 1) := by decide +kernel
theorem dL_isThread_348 : decode cL_isThread 348 = .ok (.invokevirtual 25, 3) := by decide +kernel
theorem dL_isThread_351 : decode cL_isThread 351 = .ok (.if_icmp .ne 42, 3) := by decide +kernel
theorem dL_isThread_354 : decode cL_isThread 354 = .ok (.iload 5, 2) := by decide +kernel
theorem dL_isThread_356 : decode cL_isThread 356 = .ok (.aload_n 0, 1) := by decide +kernel
theorem dL_isThread_357 : decode cL_isThread 357 = .ok (.iload_n 1, 1) := by decide +kernel
theorem dL_isThread_358 : decode cL_isThread 358 = .ok (.iconst 5, 1) := by decide +kernel
theorem dL_isThread_359 : decode cL_isThread 359 = .ok (.invokevirtual 25, 3) := by decide +kernel
theorem dL_isThread_362 : decode cL_isThread 362 = .ok (.if_icmp .ne 31, 3) := by decide +kernel
theorem dL_isThread_365 : decode cL_isThread 365 = .ok (.iload 6, 2) := by decide +kernel
theorem dL_isThread_367 : decode cL_isThread 367 = .ok (.aload_n 0, 1) := by decide +kernel
theorem dL_isThread_368 : decode cL_isThread 368 = .ok (.iload_n 1, 1) := by decide +kernel
theorem dL_isThread_369 : decode cL_isThread 369 = .ok (.bipush 6, 2) := by decide +kernel
theorem dL_isThread_371 : decode cL_isThread 371 = .ok (.invokevirtual 25, 3) := by decide +kernel
theorem dL_isThread_374 : decode cL_isThread 374 = .ok (.if_icmp .ne 19, 3) := by decide +kernel
theorem dL_isThread_377 : decode cL_isThread 377 = .ok (.iload 7, 2) := by decide +kernel
theorem dL_isThread_379 : decode cL_isThread 379 = .ok (.aload_n 0, 1) := by decide +kernel
theorem dL_isThread_380 : decode cL_isThread 380 = .ok (.iload_n 1, 1) := by decide +kernel
theorem dL_isThread_381 : decode cL_isThread 381 = .ok (.bipush 7, 2) := by decide +kernel
theorem dL_isThread_383 : decode cL_isThread 383 = .ok (.invokevirtual 25, 3) := by decide +kernel
theorem dL_isThread_386 : decode cL_isThread 386 = .ok (.if_icmp .ne 7, 3) := by decide +kernel
theorem dL_isThread_389 : decode cL_isThread 389 = .ok (.iconst 1, 1) := by decide +kernel
theorem dL_isThread_390 : decode cL_isThread 390 = .ok (.goto 4, 3) := by decide +kernel
theorem dL_isThread_393 : decode cL_isThread 393 = .ok (.iconst 0, 1) := by decide +kernel
theorem dL_isThread_394 : decode cL_isThread 394 = .ok (.istore 10, 2) := by decide +kernel
theorem dL_isThread_396 : decode cL_isThread 396 = .ok (.iload 10, 2) := by decide +kernel
theorem dL_isThread_398 : decode cL_isThread 398 = .ok (.ifCond .eq 51, 3) := by decide +kernel
theorem dL_isThread_401 : decode cL_isThread 401 = .ok (.iload 11, 2) := by decide +kernel
theorem dL_isThread_403 : decode cL_isThread 403 = .ok (.ifCond .ne 7, 3) := by decide +kernel
theorem dL_isThread_406 : decode cL_isThread 406 = .ok (.iconst 1, 1) := by decide +kernel
theorem dL_isThread_407 : decode cL_isThread 407 = .ok (.goto 4, 3) := by decide +kernel
theorem dL_isThread_410 : decode cL_isThread 410 = .ok (.iconst 0, 1) := by decide +kernel
theorem dL_isThread_411 : decode cL_isThread 411 = .ok (.iload 4, 2) := by decide +kernel
theorem dL_isThread_413 : decode cL_isThread 413 = .ok (.ifCond .ne 7, 3) := by decide +kernel
theorem dL_isThread_416 : decode cL_isThread 416 = .ok (.iconst 1, 1) := by decide +kernel
theorem dL_isThread_417 : decode cL_isThread 417 = .ok (.goto 4, 3) := by decide +kernel
theorem dL_isThread_420 : decode cL_isThread 420 = .ok (.iconst 0, 1) := by decide +kernel
theorem dL_isThread_421 : decode cL_isThread 421 = .ok (.if_icmp .ne 28, 3) := by decide +kernel
theorem dL_isThread_424 : decode cL_isThread 424 = .ok (.iload 11, 2) := by decide +kernel
theorem dL_isThread_426 : decode cL_isThread 426 = .ok (.ifCond .lt 23, 3) := by decide +kernel
theorem dL_isThread_429 : decode cL_isThread 429 = .ok (.iload 11, 2) := by decide +kernel
theorem dL_isThread_431 : decode cL_isThread 431 = .ok (.iload_n 3, 1) := by decide +kernel
theorem dL_isThread_432 : decode cL_isThread 432 = .ok (.if_icmp .gt 17, 3) := by decide +kernel
theorem dL_isThread_435 : decode cL_isThread 435 = .ok (.iload_n 3, 1) := by decide +kernel
theorem dL_isThread_436 : decode cL_isThread 436 = .ok (.ifCond .eq 9, 3) := by decide +kernel
theorem dL_isThread_439 : decode cL_isThread 439 = .ok (.iload 11, 2) := by decide +kernel
theorem dL_isThread_441 : decode cL_isThread 441 = .ok (.iload_n 3, 1) := by decide +kernel
theorem dL_isThread_442 : decode cL_isThread 442 = .ok (.if_icmp .ge 7, 3) := by decide +kernel
theorem dL_isThread_445 : decode cL_isThread 445 = .ok (.iconst 1, 1) := by decide +kernel
theorem dL_isThread_446 : decode cL_isThread 446 = .ok (.goto 4, 3) := by decide +kernel
theorem dL_isThread_449 : decode cL_isThread 449 = .ok (.iconst 0, 1) := by decide +kernel
theorem dL_isThread_450 : decode cL_isThread 450 = .ok (.ireturn, 1) := by decide +kernel
set_option maxRecDepth 20000 in
theorem ggL_isAll_X8_scene_p0 : GoodIn wsL_isAll [.code yX8_scene cX8_scene 3 (some .int)] := goodIn_r _ [5] (by decide +kernel) (by decide +kernel)
set_option maxRecDepth 20000 in
theorem ggL_isAll_X8_scene_p1 : GoodIn wsL_isAll wsX8_scene_r1 := goodIn_r _ [6, 7, 8, 9, 10, 4, 11, 12, 13, 14, 15, 16, 17, 18, 19, 20, 21, 22, 23, 24, 25, 26, 27, 28] (by decide +kernel) (by decide +kernel)
set_option maxRecDepth 20000 in
theorem ggL_isAll_X8_scene_p2 : GoodIn wsL_isAll wsX8_scene_r2 := goodIn_r _ [29, 30, 31, 32, 33, 34, 35, 36, 37, 38, 39, 40, 41, 42, 43, 44, 45, 46, 47, 48, 49, 50, 51, 52] (by decide +kernel) (by decide +kernel)
set_option maxRecDepth 20000 in
theorem ggL_isAll_X8_scene_p3 : GoodIn wsL_isAll wsX8_scene_r3 := goodIn_r _ [53, 54, 55, 56, 57, 58, 59, 60, 61, 62, 63, 64, 65, 66, 67, 68, 69, 70, 71, 72, 73, 74, 75, 76] (by decide +kernel) (by decide +kernel)
set_option maxRecDepth 20000 in
theorem ggL_isAll_X8_scene_p4 : GoodIn wsL_isAll wsX8_scene_r4 := goodIn_r _ [77, 78, 79, 80, 81, 82, 83, 84, 85, 86, 87, 88, 89, 90, 91, 92, 93, 94, 95, 96, 97, 98, 99, 100] (by decide +kernel) (by decide +kernel)
set_option maxRecDepth 20000 in
theorem ggL_isAll_X8_scene_p5 : GoodIn wsL_isAll wsX8_scene_r5 := goodIn_r _ [101, 102, 103, 104, 105, 106, 107, 108, 109, 110, 111, 112, 113, 114, 115, 116, 117, 118, 119, 120, 121, 122, 123, 124] (by decide +kernel) (by decide +kernel)
set_option maxRecDepth 20000 in
theorem ggL_isAll_X8_scene_p6 : GoodIn wsL_isAll wsX8_scene_r6 := goodIn_r _ [125, 126, 127, 128, 129, 130, 131, 132, 133, 134, 135, 136, 137, 138, 139, 140, 141, 142, 143, 144, 145, 146, 147, 148] (by decide +kernel) (by decide +kernel)
set_option maxRecDepth 20000 in
theorem ggL_isAll_X8_scene_p7 : GoodIn wsL_isAll wsX8_scene_r7 := goodIn_r _ [149, 150, 151, 152, 153, 154, 155, 156, 157, 158, 159, 160, 161, 162, 163, 164, 165, 166, 167, 168, 169] (by decide +kernel) (by decide +kernel)
set_option maxRecDepth 20000 in
theorem ggL_isAll_X8_scene_p8 : GoodIn wsL_isAll wsX80 := goodIn_r _ [307, 308, 309, 310, 311, 312, 313, 314, 315] (by decide +kernel) (by decide +kernel)
set_option maxRecDepth 20000 in
theorem ggL_isAll_X8_scene_p9 : GoodIn wsL_isAll wsX40 := goodIn_r _ [316, 317, 318] (by decide +kernel) (by decide +kernel)
set_option maxRecDepth 20000 in
theorem ggL_isAll_X8_scene_p10 : GoodIn wsL_isAll wsX30 := goodIn_r _ [319, 320, 321, 322, 323, 324, 325, 326, 327, 328] (by decide +kernel) (by decide +kernel)
set_option maxRecDepth 20000 in
theorem ggL_isAll_X8_scene_p11 : GoodIn wsL_isAll wsX10 := goodIn_r _ [329, 330] (by decide +kernel) (by decide +kernel)
set_option maxRecDepth 20000 in
theorem ggL_isAll_X8_scene_p12 : GoodIn wsL_isAll wsX70 := goodIn_r _ [331] (by decide +kernel) (by decide +kernel)
set_option maxRecDepth 20000 in
theorem ggL_isAll_X8_scene_p13 : GoodIn wsL_isAll wsX60 := goodIn_r _ [332, 333] (by decide +kernel) (by decide +kernel)
set_option maxRecDepth 20000 in
theorem ggL_isAll_X8_scene : GoodIn wsL_isAll wsX8_scene := by
  unfold GoodIn wsX8_scene
  exact List.forall_mem_cons.mpr ⟨ggL_isAll_X8_scene_p0 _ (List.mem_singleton.mpr rfl), List.forall_mem_append.mpr ⟨List.forall_mem_append.mpr ⟨List.forall_mem_append.mpr ⟨List.forall_mem_append.mpr ⟨List.forall_mem_append.mpr ⟨List.forall_mem_append.mpr ⟨List.forall_mem_append.mpr ⟨ggL_isAll_X8_scene_p1, List.forall_mem_append.mpr ⟨ggL_isAll_X8_scene_p2, List.forall_mem_append.mpr ⟨ggL_isAll_X8_scene_p3, List.forall_mem_append.mpr ⟨ggL_isAll_X8_scene_p4, List.forall_mem_append.mpr ⟨ggL_isAll_X8_scene_p5, List.forall_mem_append.mpr ⟨ggL_isAll_X8_scene_p6, ggL_isAll_X8_scene_p7⟩⟩⟩⟩⟩⟩, ggL_isAll_X8_scene_p8⟩, ggL_isAll_X8_scene_p9⟩, ggL_isAll_X8_scene_p10⟩, ggL_isAll_X8_scene_p11⟩, ggL_isAll_X8_scene_p12⟩, ggL_isAll_X8_scene_p13⟩⟩
set_option maxRecDepth 20000 in
theorem gL_isAll_X8_scene : GoodIn wsL_isAll (wsV RL 9 RX8 yX8_scene wsX8_scene) := goodIn_app (goodIn_of _ (by decide +kernel)) ggL_isAll_X8_scene
set_option maxRecDepth 20000 in
theorem ggL_isAll_X8_at : GoodIn wsL_isAll wsX8_at := goodIn_r _ [173, 7, 9, 10, 4, 11, 174, 92, 93, 38, 94, 95, 96, 97, 36, 37, 39, 40, 307, 308, 309, 310, 311, 312, 313, 314, 315, 316, 317, 318, 331] (by decide +kernel) (by decide +kernel)
set_option maxRecDepth 20000 in
theorem gL_isAll_X8_at : GoodIn wsL_isAll (wsV RL 15 RX8 yX8_at wsX8_at) := goodIn_app (goodIn_of _ (by decide +kernel)) ggL_isAll_X8_at
set_option maxRecDepth 20000 in
theorem ggL_isAll_X8_card : GoodIn wsL_isAll wsX8_card := goodIn_r _ [178, 7, 6, 179, 42, 43, 26, 44, 28, 180, 54, 55, 56, 57, 58, 59, 60, 61, 12, 13, 14, 15, 16, 17, 18, 19, 20, 21, 22, 23, 24, 25, 27, 29, 30, 31, 32, 33, 34, 35, 36, 37, 38, 39, 40, 41, 45, 46, 47, 48, 49, 50, 51, 52, 53, 62, 4, 63, 64, 65, 66, 67, 68, 69, 70, 71, 72, 73, 74, 75, 76, 181, 182, 183, 184, 185, 186, 187, 188, 124, 125, 126, 127, 189, 121, 122, 123, 190, 191, 192, 193, 194, 137, 138, 139, 195, 145, 146, 147, 196, 307, 308, 309, 310, 311, 312, 313, 314, 315, 316, 317, 318, 329, 330, 319, 320, 321, 322, 323, 324, 325, 326, 327, 328, 331] (by decide +kernel) (by decide +kernel)
set_option maxRecDepth 20000 in
theorem gL_isAll_X8_card : GoodIn wsL_isAll (wsV RL 18 RX8 yX8_card wsX8_card) := goodIn_app (goodIn_of _ (by decide +kernel)) ggL_isAll_X8_card
set_option maxRecDepth 20000 in
theorem ggL_isAll_X8_broken : GoodIn wsL_isAll wsX8_broken := goodIn_r _ [200, 6, 7, 12, 13, 14, 15, 16, 17, 18, 19, 20, 21, 22, 23, 24, 25, 26, 27, 28, 29, 30, 31, 32, 33, 34, 35, 36, 37, 38, 39, 40, 41, 42, 43, 44, 45, 46, 47, 48, 49, 50, 51, 52, 53, 54, 55, 56, 57, 58, 59, 60, 61, 62, 4, 63, 64, 65, 66, 67, 68, 69, 70, 71, 72, 73, 74, 75, 76, 201, 202, 203, 204, 136, 137, 138, 139, 124, 125, 126, 127, 185, 186, 187, 188, 307, 308, 309, 310, 311, 312, 313, 314, 315, 316, 317, 318, 319, 320, 321, 322, 323, 324, 325, 326, 327, 328, 329, 330, 331] (by decide +kernel) (by decide +kernel)
set_option maxRecDepth 20000 in
theorem gL_isAll_X8_broken : GoodIn wsL_isAll (wsV RL 28 RX8 yX8_broken wsX8_broken) := goodIn_app (goodIn_of _ (by decide +kernel)) ggL_isAll_X8_broken
set_option maxRecDepth 20000 in
theorem ggL_isAll_X8_tension : GoodIn wsL_isAll wsX8_tension := goodIn_r _ [208, 8, 7, 77, 78, 79, 80, 81, 82, 83, 84, 85, 86, 30, 31, 32, 33, 34, 87, 88, 89, 38, 90, 91, 92, 93, 94, 10, 4, 11, 95, 96, 97, 36, 37, 39, 40, 98, 99, 100, 101, 102, 54, 55, 26, 56, 57, 58, 59, 60, 61, 28, 103, 104, 105, 106, 107, 108, 109, 110, 209, 307, 308, 309, 310, 311, 312, 313, 314, 315, 332, 333, 316, 317, 318, 331, 329, 330] (by decide +kernel) (by decide +kernel)
set_option maxRecDepth 20000 in
theorem gL_isAll_X8_tension : GoodIn wsL_isAll (wsV RL 31 RX8 yX8_tension wsX8_tension) := goodIn_app (goodIn_of _ (by decide +kernel)) ggL_isAll_X8_tension
set_option maxRecDepth 20000 in
theorem ggL_isAll_L_isThread_p0 : GoodIn wsL_isAll [.code yL_isThread cL_isThread 16 (some .boolean)] := goodIn_r _ [213] (by decide +kernel) (by decide +kernel)
set_option maxRecDepth 20000 in
theorem ggL_isAll_L_isThread_p1 : GoodIn wsL_isAll wsL_isThread_r1 := goodIn_r _ [1, 2, 3, 4, 5, 6, 7, 8, 9, 10, 11, 12, 13, 14, 15, 16, 17, 18, 19, 20, 21, 22, 23, 24] (by decide +kernel) (by decide +kernel)
set_option maxRecDepth 20000 in
theorem ggL_isAll_L_isThread_p2 : GoodIn wsL_isAll wsL_isThread_r2 := goodIn_r _ [25, 26, 27, 28, 29, 30, 31, 32, 33, 34, 35, 36, 37, 38, 39, 40, 41, 42, 43, 44, 45, 46, 47, 48] (by decide +kernel) (by decide +kernel)
set_option maxRecDepth 20000 in
theorem ggL_isAll_L_isThread_p3 : GoodIn wsL_isAll wsL_isThread_r3 := goodIn_r _ [49, 50, 51, 52, 53, 54, 55, 56, 57, 58, 59, 60, 61, 62, 63, 64, 65, 66, 67, 68, 69, 70, 71, 72] (by decide +kernel) (by decide +kernel)
set_option maxRecDepth 20000 in
theorem ggL_isAll_L_isThread_p4 : GoodIn wsL_isAll wsL_isThread_r4 := goodIn_r _ [73, 74, 75, 76, 77, 78, 79, 80, 81, 82, 83, 84, 85, 86, 87, 88, 89, 90, 91, 92, 93, 94, 95, 96] (by decide +kernel) (by decide +kernel)
set_option maxRecDepth 20000 in
theorem ggL_isAll_L_isThread_p5 : GoodIn wsL_isAll wsL_isThread_r5 := goodIn_r _ [97, 98, 99, 100, 101, 102, 103, 104, 105, 106, 107, 108, 109, 110, 111, 112, 113, 114, 115, 116, 117, 118, 119, 120] (by decide +kernel) (by decide +kernel)
set_option maxRecDepth 20000 in
theorem ggL_isAll_L_isThread_p6 : GoodIn wsL_isAll wsL_isThread_r6 := goodIn_r _ [121, 122, 123, 124, 125, 126, 127, 128, 129, 130, 131, 132, 133, 134, 135, 136, 137, 138, 139, 140, 141, 142, 143, 144] (by decide +kernel) (by decide +kernel)
set_option maxRecDepth 20000 in
theorem ggL_isAll_L_isThread_p7 : GoodIn wsL_isAll wsL_isThread_r7 := goodIn_r _ [145, 146, 147, 148, 149, 150, 151, 152, 153, 154, 155, 156, 157, 158, 159, 160, 161, 162, 163, 164, 165, 166, 167, 168] (by decide +kernel) (by decide +kernel)
set_option maxRecDepth 20000 in
theorem ggL_isAll_L_isThread_p8 : GoodIn wsL_isAll wsL_isThread_r8 := goodIn_r _ [169, 170, 171, 172, 173, 174, 175, 176, 177, 178, 179, 180, 181, 182, 183, 184, 185, 186, 187, 188, 189, 190, 191, 192] (by decide +kernel) (by decide +kernel)
set_option maxRecDepth 20000 in
theorem ggL_isAll_L_isThread_p9 : GoodIn wsL_isAll wsL_isThread_r9 := goodIn_r _ [193, 194, 195, 196, 214, 215, 216, 217, 218, 219, 220, 221, 222, 223, 224, 225, 226, 227, 228, 229, 230, 231, 232, 233] (by decide +kernel) (by decide +kernel)
set_option maxRecDepth 20000 in
theorem ggL_isAll_L_isThread_p10 : GoodIn wsL_isAll wsL_isThread_r10 := goodIn_r _ [234, 235, 236, 237, 238, 239, 240, 241, 242, 243, 244, 245, 246, 247, 248, 249, 250, 251, 252, 253, 254, 255, 256, 257] (by decide +kernel) (by decide +kernel)
set_option maxRecDepth 20000 in
theorem ggL_isAll_L_isThread_p11 : GoodIn wsL_isAll wsL_isThread_r11 := goodIn_r _ [258, 259, 260, 261, 262, 263, 264, 265, 266, 267, 268, 269, 270, 271, 272, 273, 274, 275, 276, 277, 278, 279, 280, 281] (by decide +kernel) (by decide +kernel)
set_option maxRecDepth 20000 in
theorem ggL_isAll_L_isThread_p12 : GoodIn wsL_isAll wsL_isThread_r12 := goodIn_r _ [282, 283, 284, 285, 286, 287, 288, 289, 290, 291, 292, 293, 294, 295, 296, 297, 298, 299, 300, 301, 302, 303, 304, 305] (by decide +kernel) (by decide +kernel)
set_option maxRecDepth 20000 in
theorem ggL_isAll_L_isThread_p13 : GoodIn wsL_isAll wsL_isThread_r13 := goodIn_r _ [306] (by decide +kernel) (by decide +kernel)
set_option maxRecDepth 20000 in
theorem ggL_isAll_L_isThread_p14 : GoodIn wsL_isAll wsX80 := goodIn_r _ [307, 308, 309, 310, 311, 312, 313, 314, 315] (by decide +kernel) (by decide +kernel)
set_option maxRecDepth 20000 in
theorem ggL_isAll_L_isThread_p15 : GoodIn wsL_isAll wsX40 := goodIn_r _ [316, 317, 318] (by decide +kernel) (by decide +kernel)
set_option maxRecDepth 20000 in
theorem ggL_isAll_L_isThread_p16 : GoodIn wsL_isAll wsX30 := goodIn_r _ [319, 320, 321, 322, 323, 324, 325, 326, 327, 328] (by decide +kernel) (by decide +kernel)
set_option maxRecDepth 20000 in
theorem ggL_isAll_L_isThread_p17 : GoodIn wsL_isAll wsX10 := goodIn_r _ [329, 330] (by decide +kernel) (by decide +kernel)
set_option maxRecDepth 20000 in
theorem ggL_isAll_L_isThread_p18 : GoodIn wsL_isAll wsX70 := goodIn_r _ [331] (by decide +kernel) (by decide +kernel)
set_option maxRecDepth 20000 in
theorem ggL_isAll_L_isThread_p19 : GoodIn wsL_isAll wsX60 := goodIn_r _ [332, 333] (by decide +kernel) (by decide +kernel)
set_option maxRecDepth 20000 in
theorem ggL_isAll_L_isThread_p20 : GoodIn wsL_isAll wsX20 := goodIn_r _ [334, 335, 336] (by decide +kernel) (by decide +kernel)
set_option maxRecDepth 20000 in
theorem ggL_isAll_L_isThread_p21 : GoodIn wsL_isAll wsX00 := goodIn_r _ [337, 338, 339, 340, 341] (by decide +kernel) (by decide +kernel)
set_option maxRecDepth 20000 in
theorem ggL_isAll_L_isThread_p22 : GoodIn wsL_isAll wsX50 := goodIn_r _ [342, 343, 344, 345, 346, 347, 348] (by decide +kernel) (by decide +kernel)
set_option maxRecDepth 20000 in
theorem ggL_isAll_L_isThread : GoodIn wsL_isAll wsL_isThread := by
  unfold GoodIn wsL_isThread
  exact List.forall_mem_cons.mpr ⟨ggL_isAll_L_isThread_p0 _ (List.mem_singleton.mpr rfl), List.forall_mem_append.mpr ⟨List.forall_mem_append.mpr ⟨List.forall_mem_append.mpr ⟨List.forall_mem_append.mpr ⟨List.forall_mem_append.mpr ⟨List.forall_mem_append.mpr ⟨List.forall_mem_append.mpr ⟨List.forall_mem_append.mpr ⟨List.forall_mem_append.mpr ⟨List.forall_mem_append.mpr ⟨ggL_isAll_L_isThread_p1, List.forall_mem_append.mpr ⟨ggL_isAll_L_isThread_p2, List.forall_mem_append.mpr ⟨ggL_isAll_L_isThread_p3, List.forall_mem_append.mpr ⟨ggL_isAll_L_isThread_p4, List.forall_mem_append.mpr ⟨ggL_isAll_L_isThread_p5, List.forall_mem_append.mpr ⟨ggL_isAll_L_isThread_p6, List.forall_mem_append.mpr ⟨ggL_isAll_L_isThread_p7, List.forall_mem_append.mpr ⟨ggL_isAll_L_isThread_p8, List.forall_mem_append.mpr ⟨ggL_isAll_L_isThread_p9, List.forall_mem_append.mpr ⟨ggL_isAll_L_isThread_p10, List.forall_mem_append.mpr ⟨ggL_isAll_L_isThread_p11, List.forall_mem_append.mpr ⟨ggL_isAll_L_isThread_p12, ggL_isAll_L_isThread_p13⟩⟩⟩⟩⟩⟩⟩⟩⟩⟩⟩⟩, ggL_isAll_L_isThread_p14⟩, ggL_isAll_L_isThread_p15⟩, ggL_isAll_L_isThread_p16⟩, ggL_isAll_L_isThread_p17⟩, ggL_isAll_L_isThread_p18⟩, ggL_isAll_L_isThread_p19⟩, ggL_isAll_L_isThread_p20⟩, ggL_isAll_L_isThread_p21⟩, ggL_isAll_L_isThread_p22⟩⟩
set_option maxRecDepth 20000 in
theorem gL_isAll_L_isThread : GoodIn wsL_isAll (va_wsS RL 35 yL_isThread wsL_isThread) := goodIn_app (goodIn_of _ (by decide +kernel)) ggL_isAll_L_isThread
set_option maxRecDepth 20000 in
theorem ggL_isAll_X8_thread_p0 : GoodIn wsL_isAll [.code yX8_thread cX8_thread 3 (some .int)] := goodIn_r _ [269] (by decide +kernel) (by decide +kernel)
set_option maxRecDepth 20000 in
theorem ggL_isAll_X8_thread_p1 : GoodIn wsL_isAll wsX8_thread_r1 := goodIn_r _ [6, 7, 270, 271, 62, 4, 63, 12, 13, 14, 15, 16, 17, 18, 19, 20, 21, 22, 23, 24, 25, 26, 27, 28] (by decide +kernel) (by decide +kernel)
set_option maxRecDepth 20000 in
theorem ggL_isAll_X8_thread_p2 : GoodIn wsL_isAll wsX8_thread_r2 := goodIn_r _ [29, 30, 31, 32, 33, 34, 35, 36, 37, 38, 39, 40, 41, 42, 43, 44, 45, 46, 47, 48, 49, 50, 51, 52] (by decide +kernel) (by decide +kernel)
set_option maxRecDepth 20000 in
theorem ggL_isAll_X8_thread_p3 : GoodIn wsL_isAll wsX8_thread_r3 := goodIn_r _ [53, 54, 55, 56, 57, 58, 59, 60, 61, 64, 65, 66, 67, 68, 69, 70, 71, 72, 73, 74, 75, 76, 112, 113] (by decide +kernel) (by decide +kernel)
set_option maxRecDepth 20000 in
theorem ggL_isAll_X8_thread_p4 : GoodIn wsL_isAll wsX8_thread_r4 := goodIn_r _ [114, 115, 116, 117, 118, 119, 120, 121, 122, 123, 124, 125, 126, 127, 128, 129, 130, 131, 132, 133, 134, 135, 136, 137] (by decide +kernel) (by decide +kernel)
set_option maxRecDepth 20000 in
theorem ggL_isAll_X8_thread_p5 : GoodIn wsL_isAll wsX8_thread_r5 := goodIn_r _ [138, 139, 140, 141, 142, 143, 144, 145, 146, 147, 148, 149, 150, 151, 272, 273, 274, 275, 276, 277, 278, 279, 280, 281] (by decide +kernel) (by decide +kernel)
set_option maxRecDepth 20000 in
theorem ggL_isAll_X8_thread_p6 : GoodIn wsL_isAll wsX8_thread_r6 := goodIn_r _ [282, 283, 284, 285, 286, 287, 288, 289, 290, 291, 292, 186, 187, 188, 293, 294, 295, 296, 297, 298, 299, 300, 301, 302] (by decide +kernel) (by decide +kernel)
set_option maxRecDepth 20000 in
theorem ggL_isAll_X8_thread_p7 : GoodIn wsL_isAll wsX8_thread_r7 := goodIn_r _ [303, 304, 305, 306, 247, 248, 249] (by decide +kernel) (by decide +kernel)
set_option maxRecDepth 20000 in
theorem ggL_isAll_X8_thread_p8 : GoodIn wsL_isAll wsX80 := goodIn_r _ [307, 308, 309, 310, 311, 312, 313, 314, 315] (by decide +kernel) (by decide +kernel)
set_option maxRecDepth 20000 in
theorem ggL_isAll_X8_thread_p9 : GoodIn wsL_isAll wsX40 := goodIn_r _ [316, 317, 318] (by decide +kernel) (by decide +kernel)
set_option maxRecDepth 20000 in
theorem ggL_isAll_X8_thread_p10 : GoodIn wsL_isAll wsX30 := goodIn_r _ [319, 320, 321, 322, 323, 324, 325, 326, 327, 328] (by decide +kernel) (by decide +kernel)
set_option maxRecDepth 20000 in
theorem ggL_isAll_X8_thread_p11 : GoodIn wsL_isAll wsX10 := goodIn_r _ [329, 330] (by decide +kernel) (by decide +kernel)
set_option maxRecDepth 20000 in
theorem ggL_isAll_X8_thread_p12 : GoodIn wsL_isAll wsX70 := goodIn_r _ [331] (by decide +kernel) (by decide +kernel)
set_option maxRecDepth 20000 in
theorem ggL_isAll_X8_thread_p13 : GoodIn wsL_isAll wsX50 := goodIn_r _ [342, 343, 344, 345, 346, 347, 348] (by decide +kernel) (by decide +kernel)
set_option maxRecDepth 20000 in
theorem ggL_isAll_X8_thread : GoodIn wsL_isAll wsX8_thread := by
  unfold GoodIn wsX8_thread
  exact List.forall_mem_cons.mpr ⟨ggL_isAll_X8_thread_p0 _ (List.mem_singleton.mpr rfl), List.forall_mem_append.mpr ⟨List.forall_mem_append.mpr ⟨List.forall_mem_append.mpr ⟨List.forall_mem_append.mpr ⟨List.forall_mem_append.mpr ⟨List.forall_mem_append.mpr ⟨List.forall_mem_append.mpr ⟨ggL_isAll_X8_thread_p1, List.forall_mem_append.mpr ⟨ggL_isAll_X8_thread_p2, List.forall_mem_append.mpr ⟨ggL_isAll_X8_thread_p3, List.forall_mem_append.mpr ⟨ggL_isAll_X8_thread_p4, List.forall_mem_append.mpr ⟨ggL_isAll_X8_thread_p5, List.forall_mem_append.mpr ⟨ggL_isAll_X8_thread_p6, ggL_isAll_X8_thread_p7⟩⟩⟩⟩⟩⟩, ggL_isAll_X8_thread_p8⟩, ggL_isAll_X8_thread_p9⟩, ggL_isAll_X8_thread_p10⟩, ggL_isAll_X8_thread_p11⟩, ggL_isAll_X8_thread_p12⟩, ggL_isAll_X8_thread_p13⟩⟩
set_option maxRecDepth 20000 in
theorem gL_isAll_X8_thread : GoodIn wsL_isAll (wsV RL 25 RX8 yX8_thread wsX8_thread) := goodIn_app (goodIn_of _ (by decide +kernel)) ggL_isAll_X8_thread
set_option maxRecDepth 20000 in
theorem ggL_isAll_X8_count_p0 : GoodIn wsL_isAll [.code yX8_count cX8_count 2 (some .int)] := goodIn_r _ [217] (by decide +kernel) (by decide +kernel)
set_option maxRecDepth 20000 in
theorem ggL_isAll_X8_count_p1 : GoodIn wsL_isAll wsX8_count_r1 := goodIn_r _ [7, 6, 8, 218, 219, 220, 30, 31, 32, 33, 34, 12, 13, 14, 15, 16, 17, 18, 19, 20, 21, 22, 23, 24] (by decide +kernel) (by decide +kernel)
set_option maxRecDepth 20000 in
theorem ggL_isAll_X8_count_p2 : GoodIn wsL_isAll wsX8_count_r2 := goodIn_r _ [25, 26, 27, 28, 29, 35, 36, 37, 38, 39, 40, 41, 42, 43, 44, 45, 46, 47, 48, 49, 50, 51, 52, 53] (by decide +kernel) (by decide +kernel)
set_option maxRecDepth 20000 in
theorem ggL_isAll_X8_count_p3 : GoodIn wsL_isAll wsX8_count_r3 := goodIn_r _ [54, 55, 56, 57, 58, 59, 60, 61, 62, 4, 63, 64, 65, 66, 67, 68, 69, 70, 71, 72, 73, 74, 75, 76] (by decide +kernel) (by decide +kernel)
set_option maxRecDepth 20000 in
theorem ggL_isAll_X8_count_p4 : GoodIn wsL_isAll wsX8_count_r4 := goodIn_r _ [221, 222, 223, 224, 225, 226, 227, 228, 229, 230, 231, 232, 97, 233, 234, 235, 236, 160, 88, 89, 90, 91, 92, 93] (by decide +kernel) (by decide +kernel)
set_option maxRecDepth 20000 in
theorem ggL_isAll_X8_count_p5 : GoodIn wsL_isAll wsX8_count_r5 := goodIn_r _ [94, 10, 11, 95, 96, 112, 113, 114, 115, 116, 117, 118, 119, 120, 121, 122, 123, 124, 125, 126, 127, 128, 129, 130] (by decide +kernel) (by decide +kernel)
set_option maxRecDepth 20000 in
theorem ggL_isAll_X8_count_p6 : GoodIn wsL_isAll wsX8_count_r6 := goodIn_r _ [131, 132, 133, 134, 135, 136, 137, 138, 139, 140, 141, 142, 143, 144, 145, 146, 147, 148, 149, 150, 151, 237, 238, 239] (by decide +kernel) (by decide +kernel)
set_option maxRecDepth 20000 in
theorem ggL_isAll_X8_count_p7 : GoodIn wsL_isAll wsX8_count_r7 := goodIn_r _ [240, 241, 157, 158, 159, 161, 162, 163, 164, 77, 78, 79, 80, 81, 82, 83, 84, 85, 86, 87, 98, 99, 100, 101] (by decide +kernel) (by decide +kernel)
set_option maxRecDepth 20000 in
theorem ggL_isAll_X8_count_p8 : GoodIn wsL_isAll wsX8_count_r8 := goodIn_r _ [102, 103, 104, 105, 106, 107, 108, 109, 110, 242, 243, 244, 245, 246, 247, 248, 249, 250, 251, 252, 253, 254, 255, 256] (by decide +kernel) (by decide +kernel)
set_option maxRecDepth 20000 in
theorem ggL_isAll_X8_count_p9 : GoodIn wsL_isAll wsX8_count_r9 := goodIn_r _ [257, 258, 259, 260, 261, 262, 263, 264, 265] (by decide +kernel) (by decide +kernel)
set_option maxRecDepth 20000 in
theorem ggL_isAll_X8_count_p10 : GoodIn wsL_isAll wsX80 := goodIn_r _ [307, 308, 309, 310, 311, 312, 313, 314, 315] (by decide +kernel) (by decide +kernel)
set_option maxRecDepth 20000 in
theorem ggL_isAll_X8_count_p11 : GoodIn wsL_isAll wsX40 := goodIn_r _ [316, 317, 318] (by decide +kernel) (by decide +kernel)
set_option maxRecDepth 20000 in
theorem ggL_isAll_X8_count_p12 : GoodIn wsL_isAll wsX30 := goodIn_r _ [319, 320, 321, 322, 323, 324, 325, 326, 327, 328] (by decide +kernel) (by decide +kernel)
set_option maxRecDepth 20000 in
theorem ggL_isAll_X8_count_p13 : GoodIn wsL_isAll wsX10 := goodIn_r _ [329, 330] (by decide +kernel) (by decide +kernel)
set_option maxRecDepth 20000 in
theorem ggL_isAll_X8_count_p14 : GoodIn wsL_isAll wsX70 := goodIn_r _ [331] (by decide +kernel) (by decide +kernel)
set_option maxRecDepth 20000 in
theorem ggL_isAll_X8_count_p15 : GoodIn wsL_isAll wsX60 := goodIn_r _ [332, 333] (by decide +kernel) (by decide +kernel)
set_option maxRecDepth 20000 in
theorem ggL_isAll_X8_count_p16 : GoodIn wsL_isAll wsX20 := goodIn_r _ [334, 335, 336] (by decide +kernel) (by decide +kernel)
set_option maxRecDepth 20000 in
theorem ggL_isAll_X8_count_p17 : GoodIn wsL_isAll wsX00 := goodIn_r _ [337, 338, 339, 340, 341] (by decide +kernel) (by decide +kernel)
set_option maxRecDepth 20000 in
theorem ggL_isAll_X8_count : GoodIn wsL_isAll wsX8_count := by
  unfold GoodIn wsX8_count
  exact List.forall_mem_cons.mpr ⟨ggL_isAll_X8_count_p0 _ (List.mem_singleton.mpr rfl), List.forall_mem_append.mpr ⟨List.forall_mem_append.mpr ⟨List.forall_mem_append.mpr ⟨List.forall_mem_append.mpr ⟨List.forall_mem_append.mpr ⟨List.forall_mem_append.mpr ⟨List.forall_mem_append.mpr ⟨List.forall_mem_append.mpr ⟨List.forall_mem_append.mpr ⟨ggL_isAll_X8_count_p1, List.forall_mem_append.mpr ⟨ggL_isAll_X8_count_p2, List.forall_mem_append.mpr ⟨ggL_isAll_X8_count_p3, List.forall_mem_append.mpr ⟨ggL_isAll_X8_count_p4, List.forall_mem_append.mpr ⟨ggL_isAll_X8_count_p5, List.forall_mem_append.mpr ⟨ggL_isAll_X8_count_p6, List.forall_mem_append.mpr ⟨ggL_isAll_X8_count_p7, List.forall_mem_append.mpr ⟨ggL_isAll_X8_count_p8, ggL_isAll_X8_count_p9⟩⟩⟩⟩⟩⟩⟩⟩, ggL_isAll_X8_count_p10⟩, ggL_isAll_X8_count_p11⟩, ggL_isAll_X8_count_p12⟩, ggL_isAll_X8_count_p13⟩, ggL_isAll_X8_count_p14⟩, ggL_isAll_X8_count_p15⟩, ggL_isAll_X8_count_p16⟩, ggL_isAll_X8_count_p17⟩⟩
set_option maxRecDepth 20000 in
theorem gL_isAll_X8_count : GoodIn wsL_isAll (wsV RL 21 RX8 yX8_count wsX8_count) := goodIn_app (goodIn_of _ (by decide +kernel)) ggL_isAll_X8_count
