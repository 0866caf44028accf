set_option maxRecDepth 20000 in
theorem ggL_law_X8_init : GoodIn wsL_law wsX8_init := goodIn_r _ [5, 6, 7, 8, 9, 10, 11, 12, 13, 14, 15, 16, 17, 18, 19, 20, 21, 22, 23, 24, 25, 26, 27, 28, 29, 30, 31, 32, 33, 34, 35, 36, 37, 38, 39, 40, 41, 42, 43, 44, 45, 46, 47, 48, 49, 50, 51, 52, 53, 54, 55, 56, 57, 58, 59, 60, 61, 62, 63, 64, 65, 66, 67, 68, 69, 70, 71, 72, 73, 74, 75, 76, 77, 78, 79, 80, 81, 82, 83, 84, 85, 86, 87, 88, 89, 90, 91, 92, 93, 94, 95, 96, 97, 98, 573, 574, 575, 564, 565, 566, 567, 568, 569, 570, 571, 572, 576, 577, 578, 579, 580, 581, 582, 583, 584, 585, 586, 587, 588, 589, 590, 591, 592, 593, 594, 595, 596, 597, 598, 599, 600, 601, 602, 603, 604, 605] (by decide +kernel) (by decide +kernel)
set_option maxRecDepth 20000 in
theorem gL_law_X8_init : GoodIn wsL_law (wsX8_init) := ggL_law_X8_init
set_option maxRecDepth 20000 in
theorem ggL_law_X8_undo : GoodIn wsL_law wsX8_undo := goodIn_r _ [102, 17, 12, 103, 104, 105, 16, 106, 107, 108, 109, 110, 111, 112, 64, 113, 114, 115, 11, 116, 45, 47, 49, 117, 118, 119, 120, 121, 122, 123, 44, 124, 53, 125, 126, 127, 128, 129, 24, 130, 58, 131, 132, 133, 134, 135, 564, 565, 566, 567, 568, 569, 570, 571, 572, 576, 577, 578, 573, 574, 575, 604, 605, 584] (by decide +kernel) (by decide +kernel)
set_option maxRecDepth 20000 in
theorem gL_law_X8_undo : GoodIn wsL_law (wsV RL 68 RX8 yX8_undo wsX8_undo) := goodIn_app (goodIn_of _ (by decide +kernel)) ggL_law_X8_undo
set_option maxRecDepth 20000 in
theorem ggL_law_X8_restore : GoodIn wsL_law wsX8_restore := goodIn_r _ [139, 38, 17, 12, 13, 140, 141, 142, 16, 143, 107, 112, 108, 109, 110, 111, 64, 113, 114, 115, 11, 116, 45, 47, 49, 117, 118, 119, 120, 121, 122, 123, 44, 124, 53, 125, 126, 127, 128, 129, 24, 130, 58, 131, 144, 145, 146, 147, 148, 149, 150, 151, 152, 153, 154, 155, 156, 564, 565, 566, 567, 568, 569, 570, 571, 572, 573, 574, 575, 576, 577, 578, 604, 605, 584] (by decide +kernel) (by decide +kernel)
set_option maxRecDepth 20000 in
theorem gL_law_X8_restore : GoodIn wsL_law (wsV RL 72 RX8 yX8_restore wsX8_restore) := goodIn_app (goodIn_of _ (by decide +kernel)) ggL_law_X8_restore
set_option maxRecDepth 20000 in
theorem ggL_law_X8_spanBits : GoodIn wsL_law wsX8_spanBits := goodIn_r _ [160, 37, 12, 161, 162, 163, 36, 164, 165, 97, 166, 98, 167, 168, 169, 11, 170, 49, 171, 172, 173, 24, 174, 175, 176, 177, 178, 179, 2, 180, 181, 182, 153, 154, 155, 156, 58, 183, 184, 185, 186, 187, 188, 189, 44, 190, 53, 191, 192, 193, 194, 126, 195, 196, 197, 198, 199, 200, 201, 202, 203, 204, 205, 206, 207, 208, 209, 210, 564, 565, 566, 567, 568, 569, 570, 571, 572, 602, 603, 573, 574, 575, 584, 604, 605] (by decide +kernel) (by decide +kernel)
set_option maxRecDepth 20000 in
theorem gL_law_X8_spanBits : GoodIn wsL_law (wsV RL 75 RX8 yX8_spanBits wsX8_spanBits) := goodIn_app (goodIn_of _ (by decide +kernel)) ggL_law_X8_spanBits
set_option maxRecDepth 20000 in
theorem ggL_law_L_cell : GoodIn wsL_law wsL_cell := goodIn_r _ [214, 215, 216] (by decide +kernel) (by decide +kernel)
set_option maxRecDepth 20000 in
theorem gL_law_L_cell : GoodIn wsL_law (va_wsS RL 78 yL_cell wsL_cell) := goodIn_app (goodIn_of _ (by decide +kernel)) ggL_law_L_cell
set_option maxRecDepth 20000 in
theorem ggL_law_X8_add : GoodIn wsL_law wsX8_add := goodIn_r _ [220, 12, 17, 221, 222, 2, 223, 224, 225, 226, 227, 228, 229, 230, 231, 44, 232, 126, 140, 141, 142, 16, 143, 107, 112, 108, 109, 110, 111, 64, 113, 114, 115, 11, 116, 45, 47, 49, 117, 118, 119, 120, 121, 122, 123, 124, 53, 125, 127, 128, 129, 24, 130, 58, 131, 233, 234, 235, 236, 237, 238, 239, 240, 241, 191, 192, 193, 194, 242, 243, 244, 245, 564, 565, 566, 567, 568, 569, 570, 571, 572, 573, 574, 575, 604, 605, 576, 577, 578, 584] (by decide +kernel) (by decide +kernel)
set_option maxRecDepth 20000 in
theorem gL_law_X8_add : GoodIn wsL_law (wsV RL 82 RX8 yX8_add wsX8_add) := goodIn_app (goodIn_of _ (by decide +kernel)) ggL_law_X8_add
set_option maxRecDepth 20000 in
theorem ggL_law_X8_card : GoodIn wsL_law wsX8_card := goodIn_r _ [249, 12, 29, 250, 251, 252, 44, 253, 126, 254, 188, 189, 190, 53, 191, 192, 193, 194, 255, 256, 257, 28, 258, 259, 77, 260, 261, 82, 83, 262, 263, 264, 265, 266, 168, 169, 11, 170, 49, 267, 154, 155, 24, 156, 58, 268, 269, 270, 271, 272, 78, 79, 80, 81, 273, 222, 2, 223, 274, 275, 276, 277, 237, 230, 231, 232, 278, 238, 239, 240, 241, 279, 280, 281, 282, 283, 284, 285, 286, 287, 288, 289, 290, 291, 292, 293, 294, 295, 296, 297, 298, 299, 300, 301, 302, 303, 304, 305, 306, 307, 564, 565, 566, 567, 568, 569, 570, 571, 572, 573, 574, 575, 604, 605, 585, 586, 587, 588, 589, 590, 591, 592, 593, 594, 584] (by decide +kernel) (by decide +kernel)
set_option maxRecDepth 20000 in
theorem gL_law_X8_card : GoodIn wsL_law (wsV RL 18 RX8 yX8_card wsX8_card) := goodIn_app (goodIn_of _ (by decide +kernel)) ggL_law_X8_card
set_option maxRecDepth 20000 in
theorem ggL_law_L_pins_p0 : GoodIn wsL_law [.code yL_pins cL_pins 7 (some .boolean)] := goodIn_r _ [310] (by decide +kernel) (by decide +kernel)
set_option maxRecDepth 20000 in
theorem ggL_law_L_pins_p1 : GoodIn wsL_law wsL_pins_r1 := goodIn_r _ [246, 247, 248, 2, 249, 12, 29, 250, 251, 252, 44, 253, 126, 254, 188, 189, 190, 53, 191, 192, 193, 194, 255, 256] (by decide +kernel) (by decide +kernel)
set_option maxRecDepth 20000 in
theorem ggL_law_L_pins_p2 : GoodIn wsL_law wsL_pins_r2 := goodIn_r _ [257, 28, 258, 259, 77, 260, 261, 82, 83, 262, 263, 264, 265, 266, 168, 169, 11, 170, 49, 267, 154, 155, 24, 156] (by decide +kernel) (by decide +kernel)
set_option maxRecDepth 20000 in
theorem ggL_law_L_pins_p3 : GoodIn wsL_law wsL_pins_r3 := goodIn_r _ [58, 268, 269, 270, 271, 272, 78, 79, 80, 81, 273, 222, 223, 274, 275, 276, 277, 237, 230, 231, 232, 278, 238, 239] (by decide +kernel) (by decide +kernel)
set_option maxRecDepth 20000 in
theorem ggL_law_L_pins_p4 : GoodIn wsL_law wsL_pins_r4 := goodIn_r _ [240, 241, 279, 280, 281, 282, 283, 284, 285, 286, 287, 288, 289, 290, 291, 292, 293, 294, 295, 296, 297, 298, 299, 300] (by decide +kernel) (by decide +kernel)
set_option maxRecDepth 20000 in
theorem ggL_law_L_pins_p5 : GoodIn wsL_law wsL_pins_r5 := goodIn_r _ [301, 302, 303, 304, 305, 306, 307, 311, 312, 313, 314, 25, 315, 316, 317, 318, 319, 179, 180, 320, 172, 173, 174, 175] (by decide +kernel) (by decide +kernel)
