set_option maxRecDepth 20000 in
theorem ggL_law_X8_swapScenes_p1 : GoodIn wsL_law wsX8_swapScenes_r1 := goodIn_r _ [12, 17, 319, 179, 2, 180, 320, 172, 173, 24, 174, 175, 176, 177, 178, 181, 182, 153, 154, 155, 156, 58, 140, 141] (by decide +kernel) (by decide +kernel)
set_option maxRecDepth 20000 in
theorem ggL_law_X8_swapScenes_p2 : GoodIn wsL_law wsX8_swapScenes_r2 := goodIn_r _ [142, 16, 143, 107, 112, 108, 109, 110, 111, 64, 113, 114, 115, 11, 116, 45, 47, 49, 117, 118, 119, 120, 121, 122] (by decide +kernel) (by decide +kernel)
set_option maxRecDepth 20000 in
theorem ggL_law_X8_swapScenes_p3 : GoodIn wsL_law wsX8_swapScenes_r3 := goodIn_r _ [123, 44, 124, 53, 125, 126, 127, 128, 129, 130, 131, 559, 560, 561, 562, 563, 511, 512, 513, 338, 339, 340, 341, 412] (by decide +kernel) (by decide +kernel)
set_option maxRecDepth 20000 in
theorem ggL_law_X8_swapScenes_p4 : GoodIn wsL_law wsX8_swapScenes_r4 := goodIn_r _ [413, 414, 415, 29, 255, 256, 257, 28, 258, 259, 77, 260, 261, 82, 83, 262, 263, 264, 265, 266, 168, 169, 170, 267] (by decide +kernel) (by decide +kernel)
set_option maxRecDepth 20000 in
theorem ggL_law_X8_swapScenes_p5 : GoodIn wsL_law wsX8_swapScenes_r5 := goodIn_r _ [268, 251, 252, 253, 269, 270, 271, 272, 78, 79, 80, 81, 273, 188, 189, 190, 191, 192, 193, 194, 222, 223, 274, 275] (by decide +kernel) (by decide +kernel)
set_option maxRecDepth 20000 in
theorem ggL_law_X8_swapScenes_p6 : GoodIn wsL_law wsX8_swapScenes_r6 := goodIn_r _ [276, 277, 237, 230, 231, 232, 278, 238, 239, 240, 241, 370, 371, 372, 373, 374, 352, 353, 354, 375, 292, 293, 294, 287] (by decide +kernel) (by decide +kernel)
set_option maxRecDepth 20000 in
theorem ggL_law_X8_swapScenes_p7 : GoodIn wsL_law wsX8_swapScenes_r7 := goodIn_r _ [288, 289, 290, 376, 377, 378, 379, 380, 356, 357, 358, 381, 300, 301, 302, 382, 383, 384, 385, 386, 304, 305, 306, 387] (by decide +kernel) (by decide +kernel)
set_option maxRecDepth 20000 in
theorem ggL_law_X8_swapScenes_p8 : GoodIn wsL_law wsX8_swapScenes_r8 := goodIn_r _ [388, 389, 390] (by decide +kernel) (by decide +kernel)
set_option maxRecDepth 20000 in
theorem ggL_law_X8_swapScenes_p9 : GoodIn wsL_law wsX80 := goodIn_r _ [564, 565, 566, 567, 568, 569, 570, 571, 572] (by decide +kernel) (by decide +kernel)
set_option maxRecDepth 20000 in
theorem ggL_law_X8_swapScenes_p10 : GoodIn wsL_law wsX40 := goodIn_r _ [573, 574, 575] (by decide +kernel) (by decide +kernel)
set_option maxRecDepth 20000 in
theorem ggL_law_X8_swapScenes_p11 : GoodIn wsL_law wsX70 := goodIn_r _ [584] (by decide +kernel) (by decide +kernel)
set_option maxRecDepth 20000 in
theorem ggL_law_X8_swapScenes_p12 : GoodIn wsL_law wsX20 := goodIn_r _ [576, 577, 578] (by decide +kernel) (by decide +kernel)
set_option maxRecDepth 20000 in
theorem ggL_law_X8_swapScenes_p13 : GoodIn wsL_law wsX10 := goodIn_r _ [604, 605] (by decide +kernel) (by decide +kernel)
set_option maxRecDepth 20000 in
theorem ggL_law_X8_swapScenes_p14 : GoodIn wsL_law wsX30 := goodIn_r _ [585, 586, 587, 588, 589, 590, 591, 592, 593, 594] (by decide +kernel) (by decide +kernel)
set_option maxRecDepth 20000 in
theorem ggL_law_X8_swapScenes : GoodIn wsL_law wsX8_swapScenes := by
  unfold GoodIn wsX8_swapScenes
  exact List.forall_mem_cons.mpr ⟨ggL_law_X8_swapScenes_p0 _ (List.mem_singleton.mpr rfl), List.forall_mem_append.mpr ⟨List.forall_mem_append.mpr ⟨List.forall_mem_append.mpr ⟨List.forall_mem_append.mpr ⟨List.forall_mem_append.mpr ⟨List.forall_mem_append.mpr ⟨List.forall_mem_append.mpr ⟨ggL_law_X8_swapScenes_p1, List.forall_mem_append.mpr ⟨ggL_law_X8_swapScenes_p2, List.forall_mem_append.mpr ⟨ggL_law_X8_swapScenes_p3, List.forall_mem_append.mpr ⟨ggL_law_X8_swapScenes_p4, List.forall_mem_append.mpr ⟨ggL_law_X8_swapScenes_p5, List.forall_mem_append.mpr ⟨ggL_law_X8_swapScenes_p6, List.forall_mem_append.mpr ⟨ggL_law_X8_swapScenes_p7, ggL_law_X8_swapScenes_p8⟩⟩⟩⟩⟩⟩⟩, ggL_law_X8_swapScenes_p9⟩, ggL_law_X8_swapScenes_p10⟩, ggL_law_X8_swapScenes_p11⟩, ggL_law_X8_swapScenes_p12⟩, ggL_law_X8_swapScenes_p13⟩, ggL_law_X8_swapScenes_p14⟩⟩
set_option maxRecDepth 20000 in
theorem gL_law_X8_swapScenes : GoodIn wsL_law (wsV RL 96 RX8 yX8_swapScenes wsX8_swapScenes) := goodIn_app (goodIn_of _ (by decide +kernel)) ggL_law_X8_swapScenes
