set_option maxRecDepth 20000 in
theorem ggL_law_L_acts_p18 : GoodIn wsL_law wsL_acts_r18 := goodIn_r _ [517, 518, 519, 520, 521, 522, 523, 524, 525, 224, 225, 226, 227, 228, 526] (by decide +kernel) (by decide +kernel)
set_option maxRecDepth 20000 in
theorem ggL_law_L_acts_p19 : GoodIn wsL_law wsX80 := goodIn_r _ [564, 565, 566, 567, 568, 569, 570, 571, 572] (by decide +kernel) (by decide +kernel)
set_option maxRecDepth 20000 in
theorem ggL_law_L_acts_p20 : GoodIn wsL_law wsX40 := goodIn_r _ [573, 574, 575] (by decide +kernel) (by decide +kernel)
set_option maxRecDepth 20000 in
theorem ggL_law_L_acts_p21 : GoodIn wsL_law wsX30 := goodIn_r _ [585, 586, 587, 588, 589, 590, 591, 592, 593, 594] (by decide +kernel) (by decide +kernel)
set_option maxRecDepth 20000 in
theorem ggL_law_L_acts_p22 : GoodIn wsL_law wsX10 := goodIn_r _ [604, 605] (by decide +kernel) (by decide +kernel)
set_option maxRecDepth 20000 in
theorem ggL_law_L_acts_p23 : GoodIn wsL_law wsX70 := goodIn_r _ [584] (by decide +kernel) (by decide +kernel)
set_option maxRecDepth 20000 in
theorem ggL_law_L_acts_p24 : GoodIn wsL_law wsX60 := goodIn_r _ [602, 603] (by decide +kernel) (by decide +kernel)
set_option maxRecDepth 20000 in
theorem ggL_law_L_acts_p25 : GoodIn wsL_law wsX20 := goodIn_r _ [576, 577, 578] (by decide +kernel) (by decide +kernel)
set_option maxRecDepth 20000 in
theorem ggL_law_L_acts_p26 : GoodIn wsL_law wsX00 := goodIn_r _ [579, 580, 581, 582, 583] (by decide +kernel) (by decide +kernel)
set_option maxRecDepth 20000 in
theorem ggL_law_L_acts_p27 : GoodIn wsL_law wsX50 := goodIn_r _ [595, 596, 597, 598, 599, 600, 601] (by decide +kernel) (by decide +kernel)
set_option maxRecDepth 20000 in
theorem ggL_law_L_acts : GoodIn wsL_law wsL_acts := by
  unfold GoodIn wsL_acts
  exact List.forall_mem_cons.mpr ⟨ggL_law_L_acts_p0 _ (List.mem_singleton.mpr rfl), List.forall_mem_append.mpr ⟨List.forall_mem_append.mpr ⟨List.forall_mem_append.mpr ⟨List.forall_mem_append.mpr ⟨List.forall_mem_append.mpr ⟨List.forall_mem_append.mpr ⟨List.forall_mem_append.mpr ⟨List.forall_mem_append.mpr ⟨List.forall_mem_append.mpr ⟨List.forall_mem_append.mpr ⟨ggL_law_L_acts_p1, List.forall_mem_append.mpr ⟨ggL_law_L_acts_p2, List.forall_mem_append.mpr ⟨ggL_law_L_acts_p3, List.forall_mem_append.mpr ⟨ggL_law_L_acts_p4, List.forall_mem_append.mpr ⟨ggL_law_L_acts_p5, List.forall_mem_append.mpr ⟨ggL_law_L_acts_p6, List.forall_mem_append.mpr ⟨ggL_law_L_acts_p7, List.forall_mem_append.mpr ⟨ggL_law_L_acts_p8, List.forall_mem_append.mpr ⟨ggL_law_L_acts_p9, List.forall_mem_append.mpr ⟨ggL_law_L_acts_p10, List.forall_mem_append.mpr ⟨ggL_law_L_acts_p11, List.forall_mem_append.mpr ⟨ggL_law_L_acts_p12, List.forall_mem_append.mpr ⟨ggL_law_L_acts_p13, List.forall_mem_append.mpr ⟨ggL_law_L_acts_p14, List.forall_mem_append.mpr ⟨ggL_law_L_acts_p15, List.forall_mem_append.mpr ⟨ggL_law_L_acts_p16, List.forall_mem_append.mpr ⟨ggL_law_L_acts_p17, ggL_law_L_acts_p18⟩⟩⟩⟩⟩⟩⟩⟩⟩⟩⟩⟩⟩⟩⟩⟩⟩, ggL_law_L_acts_p19⟩, ggL_law_L_acts_p20⟩, ggL_law_L_acts_p21⟩, ggL_law_L_acts_p22⟩, ggL_law_L_acts_p23⟩, ggL_law_L_acts_p24⟩, ggL_law_L_acts_p25⟩, ggL_law_L_acts_p26⟩, ggL_law_L_acts_p27⟩⟩
set_option maxRecDepth 20000 in
theorem gL_law_L_acts : GoodIn wsL_law (va_wsS RL 86 yL_acts wsL_acts) := goodIn_app (goodIn_of _ (by decide +kernel)) ggL_law_L_acts
set_option maxRecDepth 20000 in
theorem ggL_law_L_isAll_p0 : GoodIn wsL_law [.code yL_isAll cL_isAll 12 (some .boolean)] := goodIn_r _ [529] rfl (by decide +kernel)
set_option maxRecDepth 20000 in
theorem ggL_law_L_isAll_p1 : GoodIn wsL_law wsL_isAll_r1 := goodIn_r _ [416, 417, 418, 2, 419, 29, 12, 37, 319, 179, 180, 255, 256, 257, 28, 258, 259, 77, 260, 261, 82, 83, 262, 263] (by decide +kernel) (by decide +kernel)
set_option maxRecDepth 20000 in
theorem ggL_law_L_isAll_p2 : GoodIn wsL_law wsL_isAll_r2 := goodIn_r _ [264, 44, 265, 126, 266, 168, 169, 11, 170, 49, 267, 154, 155, 24, 156, 58, 268, 251, 252, 253, 269, 270, 271, 272] (by decide +kernel) (by decide +kernel)
set_option maxRecDepth 20000 in
theorem ggL_law_L_isAll_p3 : GoodIn wsL_law wsL_isAll_r3 := goodIn_r _ [78, 79, 80, 81, 273, 188, 189, 190, 53, 191, 192, 193, 194, 222, 223, 274, 275, 276, 277, 237, 230, 231, 232, 278] (by decide +kernel) (by decide +kernel)
set_option maxRecDepth 20000 in
theorem ggL_law_L_isAll_p4 : GoodIn wsL_law wsL_isAll_r4 := goodIn_r _ [238, 239, 240, 241, 161, 162, 163, 36, 164, 165, 97, 166, 98, 167, 171, 172, 173, 174, 175, 176, 177, 178, 181, 182] (by decide +kernel) (by decide +kernel)
set_option maxRecDepth 20000 in
theorem ggL_law_L_isAll_p5 : GoodIn wsL_law wsL_isAll_r5 := goodIn_r _ [153, 183, 184, 185, 186, 187, 195, 196, 197, 198, 199, 200, 201, 202, 320, 370, 371, 372, 373, 374, 352, 353, 354, 375] (by decide +kernel) (by decide +kernel)
set_option maxRecDepth 20000 in
theorem ggL_law_L_isAll_p6 : GoodIn wsL_law wsL_isAll_r6 := goodIn_r _ [292, 293, 294, 287, 288, 289, 290, 376, 377, 378, 379, 380, 356, 357, 358, 381, 300, 301, 302, 382, 383, 384, 385, 386] (by decide +kernel) (by decide +kernel)
set_option maxRecDepth 20000 in
theorem ggL_law_L_isAll_p7 : GoodIn wsL_law wsL_isAll_r7 := goodIn_r _ [304, 305, 306, 387, 388, 389, 390, 420, 421, 422, 423, 424, 425, 426, 427, 428, 429, 430, 431, 432, 433, 434, 435, 436] (by decide +kernel) (by decide +kernel)
