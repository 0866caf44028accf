set_option maxRecDepth 20000 in
theorem ggL_law_L_pins_p6 : GoodIn wsL_law wsL_pins_r6 := goodIn_r _ [176, 177, 178, 181, 182, 153, 321, 322, 323, 324, 325, 326, 327, 328, 329, 330, 331, 332, 33, 333, 128, 129, 130, 131] (by decide +kernel) (by decide +kernel)
set_option maxRecDepth 20000 in
theorem ggL_law_L_pins_p7 : GoodIn wsL_law wsL_pins_r7 := goodIn_r _ [118, 119, 120, 334, 335, 336, 337, 338, 339, 340, 341, 342, 343, 344, 32, 345, 346, 87, 88, 89, 90, 347, 348, 349] (by decide +kernel) (by decide +kernel)
set_option maxRecDepth 20000 in
theorem ggL_law_L_pins_p8 : GoodIn wsL_law wsL_pins_r8 := goodIn_r _ [350, 351, 352, 353, 354, 355, 356, 357, 358, 359, 360, 361, 362, 363, 364, 365, 366, 367, 368, 369, 150, 151, 152, 370] (by decide +kernel) (by decide +kernel)
set_option maxRecDepth 20000 in
theorem ggL_law_L_pins_p9 : GoodIn wsL_law wsL_pins_r9 := goodIn_r _ [371, 372, 373, 374, 375, 376, 377, 378, 379, 380, 381, 382, 383, 384, 385, 386, 387, 388, 389, 390, 391, 392, 393, 394] (by decide +kernel) (by decide +kernel)
set_option maxRecDepth 20000 in
theorem ggL_law_L_pins_p10 : GoodIn wsL_law wsL_pins_r10 := goodIn_r _ [395, 396, 397, 398, 399, 400, 401, 402, 403, 404, 405, 406, 17, 407, 140, 141, 142, 16, 143, 107, 112, 108, 109, 110] (by decide +kernel) (by decide +kernel)
set_option maxRecDepth 20000 in
theorem ggL_law_L_pins_p11 : GoodIn wsL_law wsL_pins_r11 := goodIn_r _ [111, 64, 113, 114, 115, 116, 45, 47, 117, 121, 122, 123, 124, 125, 127, 408, 409, 410, 411, 412, 413, 414, 415, 416] (by decide +kernel) (by decide +kernel)
set_option maxRecDepth 20000 in
theorem ggL_law_L_pins_p12 : GoodIn wsL_law wsL_pins_r12 := goodIn_r _ [417, 418, 419, 37, 161, 162, 163, 36, 164, 165, 97, 166, 98, 167, 171, 183, 184, 185, 186, 187, 195, 196, 197, 198] (by decide +kernel) (by decide +kernel)
set_option maxRecDepth 20000 in
theorem ggL_law_L_pins_p13 : GoodIn wsL_law wsL_pins_r13 := goodIn_r _ [199, 200, 201, 202, 420, 421, 422, 423, 424, 425, 426, 427, 428, 429, 430, 431, 432, 433, 434, 435, 436, 437, 438, 439] (by decide +kernel) (by decide +kernel)
set_option maxRecDepth 20000 in
theorem ggL_law_L_pins_p14 : GoodIn wsL_law wsL_pins_r14 := goodIn_r _ [440, 441, 221, 442, 443, 444, 445, 446, 447, 448, 449, 92, 450, 451, 452, 453, 454, 455, 456, 457, 21, 458, 242, 243] (by decide +kernel) (by decide +kernel)
set_option maxRecDepth 20000 in
theorem ggL_law_L_pins_p15 : GoodIn wsL_law wsL_pins_r15 := goodIn_r _ [244, 245, 145, 146, 147, 148, 149, 459, 460, 461, 462, 463, 464, 465, 466, 467, 468, 469, 470, 471, 472, 473, 474, 475] (by decide +kernel) (by decide +kernel)
set_option maxRecDepth 20000 in
theorem ggL_law_L_pins_p16 : GoodIn wsL_law wsL_pins_r16 := goodIn_r _ [476, 132, 133, 134, 135, 477, 478, 479, 20, 480, 481] (by decide +kernel) (by decide +kernel)
set_option maxRecDepth 20000 in
theorem ggL_law_L_pins_p17 : GoodIn wsL_law wsX80 := goodIn_r _ [564, 565, 566, 567, 568, 569, 570, 571, 572] (by decide +kernel) (by decide +kernel)
set_option maxRecDepth 20000 in
theorem ggL_law_L_pins_p18 : GoodIn wsL_law wsX40 := goodIn_r _ [573, 574, 575] (by decide +kernel) (by decide +kernel)
set_option maxRecDepth 20000 in
theorem ggL_law_L_pins_p19 : GoodIn wsL_law wsX10 := goodIn_r _ [604, 605] (by decide +kernel) (by decide +kernel)
set_option maxRecDepth 20000 in
theorem ggL_law_L_pins_p20 : GoodIn wsL_law wsX30 := goodIn_r _ [585, 586, 587, 588, 589, 590, 591, 592, 593, 594] (by decide +kernel) (by decide +kernel)
set_option maxRecDepth 20000 in
theorem ggL_law_L_pins_p21 : GoodIn wsL_law wsX70 := goodIn_r _ [584] (by decide +kernel) (by decide +kernel)
set_option maxRecDepth 20000 in
theorem ggL_law_L_pins_p22 : GoodIn wsL_law wsX50 := goodIn_r _ [595, 596, 597, 598, 599, 600, 601] (by decide +kernel) (by decide +kernel)
set_option maxRecDepth 20000 in
theorem ggL_law_L_pins_p23 : GoodIn wsL_law wsX20 := goodIn_r _ [576, 577, 578] (by decide +kernel) (by decide +kernel)
set_option maxRecDepth 20000 in
theorem ggL_law_L_pins_p24 : GoodIn wsL_law wsX60 := goodIn_r _ [602, 603] (by decide +kernel) (by decide +kernel)
set_option maxRecDepth 20000 in
theorem ggL_law_L_pins_p25 : GoodIn wsL_law wsX00 := goodIn_r _ [579, 580, 581, 582, 583] (by decide +kernel) (by decide +kernel)
