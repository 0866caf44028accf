set_option maxRecDepth 20000 in
theorem ggL_law_X8_swapScenes : GoodIn wsL_law wsX8_swapScenes := goodIn_r _ [572, 15, 20, 311, 312, 2, 313, 314, 315, 316, 27, 317, 318, 319, 320, 321, 322, 323, 324, 325, 326, 327, 61, 134, 135, 136, 19, 137, 138, 139, 140, 141, 142, 143, 67, 144, 145, 146, 14, 147, 48, 50, 52, 148, 149, 150, 151, 152, 153, 154, 47, 155, 56, 156, 133, 157, 158, 159, 160, 161, 535, 536, 537, 538, 539, 468, 469, 470, 342, 343, 344, 345, 350, 351, 352, 353, 32, 354, 355, 356, 31, 357, 358, 80, 359, 360, 85, 86, 361, 207, 208, 209, 362, 363, 364, 365, 366, 367, 283, 284, 285, 368, 369, 370, 371, 81, 82, 83, 84, 372, 248, 249, 250, 171, 172, 173, 174, 122, 123, 373, 244, 245, 246, 166, 130, 131, 132, 247, 167, 168, 169, 170, 374, 375, 376, 377, 378, 379, 380, 381, 382, 383, 384, 385, 386, 387, 388, 389, 390, 391, 392, 393, 394, 395, 396, 397, 398, 399, 400, 401, 402, 403, 404, 405, 406, 407, 408, 409, 410, 411, 412, 413, 931, 932, 933, 934, 935, 936, 937, 938, 939, 958, 959, 960, 969, 961, 962, 963, 989, 990, 970, 971, 972, 973, 974, 975, 976, 977, 978, 979] (by decide +kernel) (by decide +kernel)
set_option maxRecDepth 20000 in
theorem gL_law_X8_swapScenes : GoodIn wsL_law (wsV RL 54 RX8 yX8_swapScenes wsX8_swapScenes) := goodIn_app (goodIn_of _ (by decide +kernel)) ggL_law_X8_swapScenes
set_option maxRecDepth 20000 in
theorem ggL_law_X9_swapScenes : GoodIn wsL_law wsX9_swapScenes := goodIn_r _ [576, 106, 183, 184, 5, 185, 422, 423, 424, 186, 187, 188, 189, 190, 107, 475, 476, 477, 478, 441, 442, 443, 444, 445, 112, 446, 447, 448, 449, 450, 110, 451, 452, 453, 454, 111, 299, 300, 301, 302, 425, 426, 427, 428, 940, 941, 942, 943, 944, 945, 946, 947, 948, 949, 950, 951, 952, 953, 954, 955, 956, 957] (by decide +kernel) (by decide +kernel)
set_option maxRecDepth 20000 in
theorem gL_law_X9_swapScenes : GoodIn wsL_law (wsV RL 57 RX9 yX9_swapScenes wsX9_swapScenes) := goodIn_app (goodIn_of _ (by decide +kernel)) ggL_law_X9_swapScenes
set_option maxRecDepth 20000 in
theorem ggL_law_X8_set : GoodIn wsL_law wsX8_set := goodIn_r _ [580, 581, 582, 15, 20, 583, 363, 364, 14, 365, 52, 134, 135, 136, 19, 137, 138, 139, 140, 141, 142, 143, 67, 144, 145, 146, 147, 48, 50, 148, 149, 150, 151, 152, 153, 154, 47, 155, 56, 156, 133, 157, 158, 159, 27, 160, 61, 161, 584, 585, 586, 587, 931, 932, 933, 934, 935, 936, 937, 938, 939, 958, 959, 960, 961, 962, 963, 989, 990, 969] (by decide +kernel) (by decide +kernel)
set_option maxRecDepth 20000 in
theorem gL_law_X8_set : GoodIn wsL_law (wsV RL 58 RX8 yX8_set wsX8_set) := goodIn_app (goodIn_of _ (by decide +kernel)) ggL_law_X8_set
set_option maxRecDepth 20000 in
theorem ggL_law_X9_set : GoodIn wsL_law wsX9_set := goodIn_r _ [591, 106, 183, 184, 5, 185, 186, 187, 188, 189, 190, 107, 940, 941, 942, 943, 944, 945, 946, 947, 948, 949, 950, 951, 952, 953, 954, 955, 956, 957] (by decide +kernel) (by decide +kernel)
set_option maxRecDepth 20000 in
theorem gL_law_X9_set : GoodIn wsL_law (wsV RL 61 RX9 yX9_set wsX9_set) := goodIn_app (goodIn_of _ (by decide +kernel)) ggL_law_X9_set
set_option maxRecDepth 20000 in
theorem ggL_law_X8_type : GoodIn wsL_law wsX8_type := goodIn_r _ [595, 24, 596, 597, 598, 23, 599, 205, 72, 600, 601, 602, 603, 931, 932, 933, 934, 935, 936, 937, 938, 939, 964, 965, 966, 967, 968] (by decide +kernel) (by decide +kernel)
set_option maxRecDepth 20000 in
theorem gL_law_X8_type : GoodIn wsL_law (wsV RL 62 RX8 yX8_type wsX8_type) := goodIn_app (goodIn_of _ (by decide +kernel)) ggL_law_X8_type
set_option maxRecDepth 20000 in
theorem ggL_law_X9_type : GoodIn wsL_law wsX9_type := goodIn_r _ [607, 261, 116, 940, 941, 942, 943, 944, 945, 946, 947, 948, 949, 950, 951, 952, 953, 954, 955, 956, 957] (by decide +kernel) (by decide +kernel)
set_option maxRecDepth 20000 in
theorem gL_law_X9_type : GoodIn wsL_law (wsV RL 66 RX9 yX9_type wsX9_type) := goodIn_app (goodIn_of _ (by decide +kernel)) ggL_law_X9_type
set_option maxRecDepth 20000 in
theorem ggL_law_X8_clearText : GoodIn wsL_law wsX8_clearText := goodIn_r _ [611, 24, 600, 601, 602, 23, 603, 205, 612, 613, 614, 615, 931, 932, 933, 934, 935, 936, 937, 938, 939, 964, 965, 966, 967, 968] (by decide +kernel) (by decide +kernel)
set_option maxRecDepth 20000 in
theorem gL_law_X8_clearText : GoodIn wsL_law (wsV RL 67 RX8 yX8_clearText wsX8_clearText) := goodIn_app (goodIn_of _ (by decide +kernel)) ggL_law_X8_clearText
set_option maxRecDepth 20000 in
theorem ggL_law_X9_clearText : GoodIn wsL_law wsX9_clearText := goodIn_r _ [619, 261, 940, 941, 942, 943, 944, 945, 946, 947, 948, 949, 950, 951, 952, 953, 954, 955, 956, 957] (by decide +kernel) (by decide +kernel)
set_option maxRecDepth 20000 in
theorem gL_law_X9_clearText : GoodIn wsL_law (wsV RL 70 RX9 yX9_clearText wsX9_clearText) := goodIn_app (goodIn_of _ (by decide +kernel)) ggL_law_X9_clearText
set_option maxRecDepth 20000 in
theorem ggL_law_X8_undo : GoodIn wsL_law wsX8_undo := goodIn_r _ [623, 20, 15, 624, 625, 626, 19, 627, 138, 140, 141, 142, 143, 139, 67, 144, 145, 146, 14, 147, 48, 50, 52, 148, 149, 150, 151, 152, 153, 154, 47, 155, 56, 156, 133, 157, 158, 159, 27, 160, 61, 161, 628, 629, 630, 631, 931, 932, 933, 934, 935, 936, 937, 938, 939, 961, 962, 963, 958, 959, 960, 989, 990, 969] (by decide +kernel) (by decide +kernel)
set_option maxRecDepth 20000 in
theorem gL_law_X8_undo : GoodIn wsL_law (wsV RL 71 RX8 yX8_undo wsX8_undo) := goodIn_app (goodIn_of _ (by decide +kernel)) ggL_law_X8_undo
set_option maxRecDepth 20000 in
theorem ggL_law_X9_undo : GoodIn wsL_law wsX9_undo := goodIn_r _ [635, 190, 106, 107, 940, 941, 942, 943, 944, 945, 946, 947, 948, 949, 950, 951, 952, 953, 954, 955, 956, 957] (by decide +kernel) (by decide +kernel)
set_option maxRecDepth 20000 in
theorem gL_law_X9_undo : GoodIn wsL_law (wsV RL 74 RX9 yX9_undo wsX9_undo) := goodIn_app (goodIn_of _ (by decide +kernel)) ggL_law_X9_undo
