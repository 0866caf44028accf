set_option maxRecDepth 20000 in
theorem ggL_law_L_pins : GoodIn wsL_law wsL_pins := by
  unfold GoodIn wsL_pins
  exact List.forall_mem_cons.mpr ⟨ggL_law_L_pins_p0 _ (List.mem_singleton.mpr rfl), List.forall_mem_append.mpr ⟨List.forall_mem_append.mpr ⟨List.forall_mem_append.mpr ⟨List.forall_mem_append.mpr ⟨List.forall_mem_append.mpr ⟨List.forall_mem_append.mpr ⟨List.forall_mem_append.mpr ⟨List.forall_mem_append.mpr ⟨List.forall_mem_append.mpr ⟨List.forall_mem_append.mpr ⟨ggL_law_L_pins_p1, List.forall_mem_append.mpr ⟨ggL_law_L_pins_p2, List.forall_mem_append.mpr ⟨ggL_law_L_pins_p3, List.forall_mem_append.mpr ⟨ggL_law_L_pins_p4, List.forall_mem_append.mpr ⟨ggL_law_L_pins_p5, List.forall_mem_append.mpr ⟨ggL_law_L_pins_p6, List.forall_mem_append.mpr ⟨ggL_law_L_pins_p7, List.forall_mem_append.mpr ⟨ggL_law_L_pins_p8, List.forall_mem_append.mpr ⟨ggL_law_L_pins_p9, List.forall_mem_append.mpr ⟨ggL_law_L_pins_p10, List.forall_mem_append.mpr ⟨ggL_law_L_pins_p11, List.forall_mem_append.mpr ⟨ggL_law_L_pins_p12, List.forall_mem_append.mpr ⟨ggL_law_L_pins_p13, List.forall_mem_append.mpr ⟨ggL_law_L_pins_p14, List.forall_mem_append.mpr ⟨ggL_law_L_pins_p15, ggL_law_L_pins_p16⟩⟩⟩⟩⟩⟩⟩⟩⟩⟩⟩⟩⟩⟩⟩, ggL_law_L_pins_p17⟩, ggL_law_L_pins_p18⟩, ggL_law_L_pins_p19⟩, ggL_law_L_pins_p20⟩, ggL_law_L_pins_p21⟩, ggL_law_L_pins_p22⟩, ggL_law_L_pins_p23⟩, ggL_law_L_pins_p24⟩, ggL_law_L_pins_p25⟩⟩
set_option maxRecDepth 20000 in
theorem gL_law_L_pins : GoodIn wsL_law (va_wsS RL 48 yL_pins wsL_pins) := goodIn_app (goodIn_of _ (by decide +kernel)) ggL_law_L_pins
set_option maxRecDepth 20000 in
theorem ggL_law_L_acts_p0 : GoodIn wsL_law [.code yL_acts cL_acts 18 (some .boolean)] := goodIn_r _ [484] rfl (by decide +kernel)
set_option maxRecDepth 20000 in
theorem ggL_law_L_acts_p1 : GoodIn wsL_law wsL_acts_r1 := goodIn_r _ [454, 455, 456, 2, 457, 12, 29, 37, 17, 21, 458, 168, 169, 11, 170, 49, 255, 256, 257, 28, 258, 259, 77, 260] (by decide +kernel) (by decide +kernel)
set_option maxRecDepth 20000 in
theorem ggL_law_L_acts_p2 : GoodIn wsL_law wsL_acts_r2 := goodIn_r _ [261, 82, 83, 262, 263, 264, 44, 265, 126, 266, 267, 154, 155, 24, 156, 58, 268, 251, 252, 253, 269, 270, 271, 272] (by decide +kernel) (by decide +kernel)
set_option maxRecDepth 20000 in
theorem ggL_law_L_acts_p3 : GoodIn wsL_law wsL_acts_r3 := goodIn_r _ [78, 79, 80, 81, 273, 188, 189, 190, 53, 191, 192, 193, 194, 222, 223, 274, 275, 276, 277, 237, 230, 231, 232, 278] (by decide +kernel) (by decide +kernel)
set_option maxRecDepth 20000 in
theorem ggL_law_L_acts_p4 : GoodIn wsL_law wsL_acts_r4 := goodIn_r _ [238, 239, 240, 241, 242, 243, 244, 245, 145, 146, 147, 148, 149, 150, 151, 152, 153, 459, 460, 461, 462, 428, 172, 173] (by decide +kernel) (by decide +kernel)
set_option maxRecDepth 20000 in
theorem ggL_law_L_acts_p5 : GoodIn wsL_law wsL_acts_r5 := goodIn_r _ [174, 175, 176, 177, 178, 179, 180, 181, 182, 370, 371, 372, 373, 374, 352, 353, 354, 375, 292, 293, 294, 287, 288, 289] (by decide +kernel) (by decide +kernel)
set_option maxRecDepth 20000 in
theorem ggL_law_L_acts_p6 : GoodIn wsL_law wsL_acts_r6 := goodIn_r _ [290, 376, 377, 378, 379, 380, 356, 357, 358, 381, 300, 301, 302, 382, 383, 384, 385, 386, 304, 305, 306, 387, 388, 389] (by decide +kernel) (by decide +kernel)
set_option maxRecDepth 20000 in
theorem ggL_law_L_acts_p7 : GoodIn wsL_law wsL_acts_r7 := goodIn_r _ [390, 463, 464, 465, 466, 467, 425, 426, 427, 429, 430, 431, 432, 161, 162, 163, 36, 164, 165, 97, 166, 98, 167, 171] (by decide +kernel) (by decide +kernel)
set_option maxRecDepth 20000 in
theorem ggL_law_L_acts_p8 : GoodIn wsL_law wsL_acts_r8 := goodIn_r _ [183, 184, 185, 186, 187, 195, 196, 197, 198, 199, 200, 201, 202, 468, 469, 470, 471, 472, 451, 452, 453, 473, 474, 475] (by decide +kernel) (by decide +kernel)
set_option maxRecDepth 20000 in
theorem ggL_law_L_acts_p9 : GoodIn wsL_law wsL_acts_r9 := goodIn_r _ [476, 132, 133, 134, 16, 135, 107, 477, 478, 479, 20, 480, 481, 308, 309, 213, 310, 246, 247, 248, 249, 250, 254, 279] (by decide +kernel) (by decide +kernel)
set_option maxRecDepth 20000 in
theorem ggL_law_L_acts_p10 : GoodIn wsL_law wsL_acts_r10 := goodIn_r _ [280, 281, 282, 283, 284, 285, 286, 291, 295, 296, 297, 298, 299, 303, 307, 311, 312, 313, 314, 25, 315, 316, 317, 318] (by decide +kernel) (by decide +kernel)
set_option maxRecDepth 20000 in
theorem ggL_law_L_acts_p11 : GoodIn wsL_law wsL_acts_r11 := goodIn_r _ [319, 320, 321, 322, 323, 324, 325, 326, 327, 328, 329, 330, 331, 332, 33, 333, 128, 129, 130, 131, 118, 119, 120, 334] (by decide +kernel) (by decide +kernel)
set_option maxRecDepth 20000 in
theorem ggL_law_L_acts_p12 : GoodIn wsL_law wsL_acts_r12 := goodIn_r _ [335, 336, 337, 338, 339, 340, 341, 342, 343, 344, 32, 345, 346, 87, 88, 89, 90, 347, 348, 349, 350, 351, 355, 359] (by decide +kernel) (by decide +kernel)
set_option maxRecDepth 20000 in
theorem ggL_law_L_acts_p13 : GoodIn wsL_law wsL_acts_r13 := goodIn_r _ [360, 361, 362, 363, 364, 365, 366, 367, 368, 369, 391, 392, 393, 394, 395, 396, 397, 398, 399, 400, 401, 402, 403, 404] (by decide +kernel) (by decide +kernel)
set_option maxRecDepth 20000 in
theorem ggL_law_L_acts_p14 : GoodIn wsL_law wsL_acts_r14 := goodIn_r _ [405, 406, 407, 140, 141, 142, 143, 112, 108, 109, 110, 111, 64, 113, 114, 115, 116, 45, 47, 117, 121, 122, 123, 124] (by decide +kernel) (by decide +kernel)
set_option maxRecDepth 20000 in
theorem ggL_law_L_acts_p15 : GoodIn wsL_law wsL_acts_r15 := goodIn_r _ [125, 127, 408, 409, 410, 411, 412, 413, 414, 415, 416, 417, 418, 419, 420, 421, 422, 423, 424, 433, 434, 435, 436, 437] (by decide +kernel) (by decide +kernel)
set_option maxRecDepth 20000 in
theorem ggL_law_L_acts_p16 : GoodIn wsL_law wsL_acts_r16 := goodIn_r _ [438, 439, 440, 441, 221, 442, 443, 444, 445, 446, 447, 448, 449, 92, 450, 485, 486, 487, 488, 489, 490, 491, 492, 91] (by decide +kernel) (by decide +kernel)
set_option maxRecDepth 20000 in
theorem ggL_law_L_acts_p17 : GoodIn wsL_law wsL_acts_r17 := goodIn_r _ [493, 494, 495, 496, 497, 498, 499, 500, 501, 502, 503, 504, 505, 506, 507, 508, 509, 510, 511, 512, 513, 514, 515, 516] (by decide +kernel) (by decide +kernel)
