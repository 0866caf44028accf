set_option maxRecDepth 20000 in
theorem ggL_law_L_isAll_p8 : GoodIn wsL_law wsL_isAll_r8 := goodIn_r _ [437, 530, 531, 532, 533, 534, 246, 247, 248, 249, 250, 254, 279, 280, 281, 282, 283, 284, 285, 286, 291, 295, 296, 297] (by decide +kernel) (by decide +kernel)
set_option maxRecDepth 20000 in
theorem ggL_law_L_isAll_p9 : GoodIn wsL_law wsL_isAll_r9 := goodIn_r _ [298, 299, 303, 307, 535, 536, 537, 538, 539, 540, 541, 542, 543, 544, 545, 546, 547, 548, 549, 213, 550, 454, 455, 456] (by decide +kernel) (by decide +kernel)
set_option maxRecDepth 20000 in
theorem ggL_law_L_isAll_p10 : GoodIn wsL_law wsL_isAll_r10 := goodIn_r _ [457, 17, 21, 458, 242, 243, 244, 245, 145, 146, 147, 148, 149, 150, 151, 152, 459, 460, 461, 462, 463, 464, 465, 466] (by decide +kernel) (by decide +kernel)
set_option maxRecDepth 20000 in
theorem ggL_law_L_isAll_p11 : GoodIn wsL_law wsL_isAll_r11 := goodIn_r _ [467, 468, 469, 470, 471, 472, 451, 452, 453, 473, 474, 475, 476, 132, 133, 134, 16, 135, 107, 477, 478, 479, 20, 480] (by decide +kernel) (by decide +kernel)
set_option maxRecDepth 20000 in
theorem ggL_law_L_isAll_p12 : GoodIn wsL_law wsL_isAll_r12 := goodIn_r _ [481, 438, 439, 440, 441, 33, 221, 442, 443, 444, 445, 342, 343, 344, 32, 345, 346, 87, 88, 89, 90, 347, 348, 349] (by decide +kernel) (by decide +kernel)
set_option maxRecDepth 20000 in
theorem ggL_law_L_isAll_p13 : GoodIn wsL_law wsL_isAll_r13 := goodIn_r _ [350, 351, 355, 359, 360, 361, 362, 363, 364, 365, 366, 367, 446, 447, 448, 449, 92, 450] (by decide +kernel) (by decide +kernel)
set_option maxRecDepth 20000 in
theorem ggL_law_L_isAll_p14 : GoodIn wsL_law wsX80 := goodIn_r _ [564, 565, 566, 567, 568, 569, 570, 571, 572] (by decide +kernel) (by decide +kernel)
set_option maxRecDepth 20000 in
theorem ggL_law_L_isAll_p15 : GoodIn wsL_law wsX40 := goodIn_r _ [573, 574, 575] (by decide +kernel) (by decide +kernel)
set_option maxRecDepth 20000 in
theorem ggL_law_L_isAll_p16 : GoodIn wsL_law wsX30 := goodIn_r _ [585, 586, 587, 588, 589, 590, 591, 592, 593, 594] (by decide +kernel) (by decide +kernel)
set_option maxRecDepth 20000 in
theorem ggL_law_L_isAll_p17 : GoodIn wsL_law wsX10 := goodIn_r _ [604, 605] (by decide +kernel) (by decide +kernel)
set_option maxRecDepth 20000 in
theorem ggL_law_L_isAll_p18 : GoodIn wsL_law wsX70 := goodIn_r _ [584] (by decide +kernel) (by decide +kernel)
set_option maxRecDepth 20000 in
theorem ggL_law_L_isAll_p19 : GoodIn wsL_law wsX60 := goodIn_r _ [602, 603] (by decide +kernel) (by decide +kernel)
set_option maxRecDepth 20000 in
theorem ggL_law_L_isAll_p20 : GoodIn wsL_law wsX20 := goodIn_r _ [576, 577, 578] (by decide +kernel) (by decide +kernel)
set_option maxRecDepth 20000 in
theorem ggL_law_L_isAll_p21 : GoodIn wsL_law wsX00 := goodIn_r _ [579, 580, 581, 582, 583] (by decide +kernel) (by decide +kernel)
set_option maxRecDepth 20000 in
theorem ggL_law_L_isAll_p22 : GoodIn wsL_law wsX50 := goodIn_r _ [595, 596, 597, 598, 599, 600, 601] (by decide +kernel) (by decide +kernel)
set_option maxRecDepth 20000 in
theorem ggL_law_L_isAll : GoodIn wsL_law wsL_isAll := by
  unfold GoodIn wsL_isAll
  exact List.forall_mem_cons.mpr ⟨ggL_law_L_isAll_p0 _ (List.mem_singleton.mpr rfl), List.forall_mem_append.mpr ⟨List.forall_mem_append.mpr ⟨List.forall_mem_append.mpr ⟨List.forall_mem_append.mpr ⟨List.forall_mem_append.mpr ⟨List.forall_mem_append.mpr ⟨List.forall_mem_append.mpr ⟨List.forall_mem_append.mpr ⟨List.forall_mem_append.mpr ⟨List.forall_mem_append.mpr ⟨ggL_law_L_isAll_p1, List.forall_mem_append.mpr ⟨ggL_law_L_isAll_p2, List.forall_mem_append.mpr ⟨ggL_law_L_isAll_p3, List.forall_mem_append.mpr ⟨ggL_law_L_isAll_p4, List.forall_mem_append.mpr ⟨ggL_law_L_isAll_p5, List.forall_mem_append.mpr ⟨ggL_law_L_isAll_p6, List.forall_mem_append.mpr ⟨ggL_law_L_isAll_p7, List.forall_mem_append.mpr ⟨ggL_law_L_isAll_p8, List.forall_mem_append.mpr ⟨ggL_law_L_isAll_p9, List.forall_mem_append.mpr ⟨ggL_law_L_isAll_p10, List.forall_mem_append.mpr ⟨ggL_law_L_isAll_p11, List.forall_mem_append.mpr ⟨ggL_law_L_isAll_p12, ggL_law_L_isAll_p13⟩⟩⟩⟩⟩⟩⟩⟩⟩⟩⟩⟩, ggL_law_L_isAll_p14⟩, ggL_law_L_isAll_p15⟩, ggL_law_L_isAll_p16⟩, ggL_law_L_isAll_p17⟩, ggL_law_L_isAll_p18⟩, ggL_law_L_isAll_p19⟩, ggL_law_L_isAll_p20⟩, ggL_law_L_isAll_p21⟩, ggL_law_L_isAll_p22⟩⟩
set_option maxRecDepth 20000 in
theorem gL_law_L_isAll : GoodIn wsL_law (va_wsS RL 89 yL_isAll wsL_isAll) := goodIn_app (goodIn_of _ (by decide +kernel)) ggL_law_L_isAll
set_option maxRecDepth 20000 in
theorem ggL_law_X8_count_p0 : GoodIn wsL_law [.code yX8_count cX8_count 2 (some .int)] := goodIn_r _ [457] (by decide +kernel) (by decide +kernel)
set_option maxRecDepth 20000 in
theorem ggL_law_X8_count_p1 : GoodIn wsL_law wsX8_count_r1 := goodIn_r _ [12, 29, 37, 17, 21, 458, 168, 169, 11, 170, 49, 255, 256, 257, 28, 258, 259, 77, 260, 261, 82, 83, 262, 263] (by decide +kernel) (by decide +kernel)
set_option maxRecDepth 20000 in
theorem ggL_law_X8_count_p2 : GoodIn wsL_law wsX8_count_r2 := goodIn_r _ [264, 44, 265, 126, 266, 267, 154, 155, 24, 156, 58, 268, 251, 252, 253, 269, 270, 271, 272, 78, 79, 80, 81, 273] (by decide +kernel) (by decide +kernel)
