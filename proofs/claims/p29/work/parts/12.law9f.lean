set_option maxRecDepth 20000 in
theorem ggL_law_X8_count_p3 : GoodIn wsL_law wsX8_count_r3 := goodIn_r _ [188, 189, 190, 53, 191, 192, 193, 194, 222, 2, 223, 274, 275, 276, 277, 237, 230, 231, 232, 278, 238, 239, 240, 241] (by decide +kernel) (by decide +kernel)
set_option maxRecDepth 20000 in
theorem ggL_law_X8_count_p4 : GoodIn wsL_law wsX8_count_r4 := goodIn_r _ [242, 243, 244, 245, 145, 146, 147, 148, 149, 150, 151, 152, 153, 459, 460, 461, 462, 428, 172, 173, 174, 175, 176, 177] (by decide +kernel) (by decide +kernel)
set_option maxRecDepth 20000 in
theorem ggL_law_X8_count_p5 : GoodIn wsL_law wsX8_count_r5 := goodIn_r _ [178, 179, 180, 181, 182, 370, 371, 372, 373, 374, 352, 353, 354, 375, 292, 293, 294, 287, 288, 289, 290, 376, 377, 378] (by decide +kernel) (by decide +kernel)
set_option maxRecDepth 20000 in
theorem ggL_law_X8_count_p6 : GoodIn wsL_law wsX8_count_r6 := goodIn_r _ [379, 380, 356, 357, 358, 381, 300, 301, 302, 382, 383, 384, 385, 386, 304, 305, 306, 387, 388, 389, 390, 463, 464, 465] (by decide +kernel) (by decide +kernel)
set_option maxRecDepth 20000 in
theorem ggL_law_X8_count_p7 : GoodIn wsL_law wsX8_count_r7 := goodIn_r _ [466, 467, 425, 426, 427, 429, 430, 431, 432, 161, 162, 163, 36, 164, 165, 97, 166, 98, 167, 171, 183, 184, 185, 186] (by decide +kernel) (by decide +kernel)
set_option maxRecDepth 20000 in
theorem ggL_law_X8_count_p8 : GoodIn wsL_law wsX8_count_r8 := goodIn_r _ [187, 195, 196, 197, 198, 199, 200, 201, 202, 468, 469, 470, 471, 472, 451, 452, 453, 473, 474, 475, 476, 132, 133, 134] (by decide +kernel) (by decide +kernel)
set_option maxRecDepth 20000 in
theorem ggL_law_X8_count_p9 : GoodIn wsL_law wsX8_count_r9 := goodIn_r _ [16, 135, 107, 477, 478, 479, 20, 480, 481] (by decide +kernel) (by decide +kernel)
set_option maxRecDepth 20000 in
theorem ggL_law_X8_count_p10 : GoodIn wsL_law wsX80 := goodIn_r _ [564, 565, 566, 567, 568, 569, 570, 571, 572] (by decide +kernel) (by decide +kernel)
set_option maxRecDepth 20000 in
theorem ggL_law_X8_count_p11 : GoodIn wsL_law wsX40 := goodIn_r _ [573, 574, 575] (by decide +kernel) (by decide +kernel)
set_option maxRecDepth 20000 in
theorem ggL_law_X8_count_p12 : GoodIn wsL_law wsX30 := goodIn_r _ [585, 586, 587, 588, 589, 590, 591, 592, 593, 594] (by decide +kernel) (by decide +kernel)
set_option maxRecDepth 20000 in
theorem ggL_law_X8_count_p13 : GoodIn wsL_law wsX10 := goodIn_r _ [604, 605] (by decide +kernel) (by decide +kernel)
set_option maxRecDepth 20000 in
theorem ggL_law_X8_count_p14 : GoodIn wsL_law wsX70 := goodIn_r _ [584] (by decide +kernel) (by decide +kernel)
set_option maxRecDepth 20000 in
theorem ggL_law_X8_count_p15 : GoodIn wsL_law wsX60 := goodIn_r _ [602, 603] (by decide +kernel) (by decide +kernel)
set_option maxRecDepth 20000 in
theorem ggL_law_X8_count_p16 : GoodIn wsL_law wsX20 := goodIn_r _ [576, 577, 578] (by decide +kernel) (by decide +kernel)
set_option maxRecDepth 20000 in
theorem ggL_law_X8_count_p17 : GoodIn wsL_law wsX00 := goodIn_r _ [579, 580, 581, 582, 583] (by decide +kernel) (by decide +kernel)
set_option maxRecDepth 20000 in
theorem ggL_law_X8_count : GoodIn wsL_law wsX8_count := by
  unfold GoodIn wsX8_count
  exact List.forall_mem_cons.mpr ⟨ggL_law_X8_count_p0 _ (List.mem_singleton.mpr rfl), List.forall_mem_append.mpr ⟨List.forall_mem_append.mpr ⟨List.forall_mem_append.mpr ⟨List.forall_mem_append.mpr ⟨List.forall_mem_append.mpr ⟨List.forall_mem_append.mpr ⟨List.forall_mem_append.mpr ⟨List.forall_mem_append.mpr ⟨List.forall_mem_append.mpr ⟨ggL_law_X8_count_p1, List.forall_mem_append.mpr ⟨ggL_law_X8_count_p2, List.forall_mem_append.mpr ⟨ggL_law_X8_count_p3, List.forall_mem_append.mpr ⟨ggL_law_X8_count_p4, List.forall_mem_append.mpr ⟨ggL_law_X8_count_p5, List.forall_mem_append.mpr ⟨ggL_law_X8_count_p6, List.forall_mem_append.mpr ⟨ggL_law_X8_count_p7, List.forall_mem_append.mpr ⟨ggL_law_X8_count_p8, ggL_law_X8_count_p9⟩⟩⟩⟩⟩⟩⟩⟩, ggL_law_X8_count_p10⟩, ggL_law_X8_count_p11⟩, ggL_law_X8_count_p12⟩, ggL_law_X8_count_p13⟩, ggL_law_X8_count_p14⟩, ggL_law_X8_count_p15⟩, ggL_law_X8_count_p16⟩, ggL_law_X8_count_p17⟩⟩
set_option maxRecDepth 20000 in
theorem gL_law_X8_count : GoodIn wsL_law (wsV RL 21 RX8 yX8_count wsX8_count) := goodIn_app (goodIn_of _ (by decide +kernel)) ggL_law_X8_count
set_option maxRecDepth 20000 in
theorem ggL_law_X8_keep : GoodIn wsL_law wsX8_keep := goodIn_r _ [554, 13, 12, 38, 144, 114, 115, 11, 116, 45, 47, 49, 117, 118, 119, 120, 121, 122, 123, 44, 124, 53, 125, 126, 127, 128, 129, 24, 130, 58, 131, 145, 146, 147, 148, 149, 150, 151, 152, 153, 154, 155, 156, 564, 565, 566, 567, 568, 569, 570, 571, 572, 573, 574, 575, 604, 605, 584] (by decide +kernel) (by decide +kernel)
set_option maxRecDepth 20000 in
theorem gL_law_X8_keep : GoodIn wsL_law (wsV RL 93 RX8 yX8_keep wsX8_keep) := goodIn_app (goodIn_of _ (by decide +kernel)) ggL_law_X8_keep
set_option maxRecDepth 20000 in
theorem ggL_law_X8_swapScenes_p0 : GoodIn wsL_law [.code yX8_swapScenes cX8_swapScenes 3 (some .int)] := goodIn_r _ [558] (by decide +kernel) (by decide +kernel)
