set_option maxRecDepth 20000 in
theorem ggL_law_X8_keep : GoodIn wsL_law wsX8_keep := goodIn_r _ [639, 16, 15, 41, 640, 145, 146, 14, 147, 48, 50, 52, 148, 149, 150, 151, 152, 153, 154, 47, 155, 56, 156, 133, 157, 158, 159, 27, 160, 61, 161, 641, 642, 643, 644, 645, 646, 647, 648, 324, 325, 326, 327, 931, 932, 933, 934, 935, 936, 937, 938, 939, 958, 959, 960, 989, 990, 969] (by decide +kernel) (by decide +kernel)
set_option maxRecDepth 20000 in
theorem gL_law_X8_keep : GoodIn wsL_law (wsV RL 75 RX8 yX8_keep wsX8_keep) := goodIn_app (goodIn_of _ (by decide +kernel)) ggL_law_X8_keep
set_option maxRecDepth 20000 in
theorem ggL_law_X9_keep : GoodIn wsL_law wsX9_keep := goodIn_r _ [652, 108, 106, 653, 654, 655, 656, 5, 657, 450, 451, 452, 453, 454, 111, 110, 422, 423, 424, 940, 941, 942, 943, 944, 945, 946, 947, 948, 949, 950, 951, 952, 953, 954, 955, 956, 957] (by decide +kernel) (by decide +kernel)
set_option maxRecDepth 20000 in
theorem gL_law_X9_keep : GoodIn wsL_law (wsV RL 78 RX9 yX9_keep wsX9_keep) := goodIn_app (goodIn_of _ (by decide +kernel)) ggL_law_X9_keep
set_option maxRecDepth 20000 in
theorem ggL_law_X8_restore : GoodIn wsL_law wsX8_restore := goodIn_r _ [661, 41, 20, 15, 16, 134, 135, 136, 19, 137, 138, 139, 140, 141, 142, 143, 67, 144, 145, 146, 14, 147, 48, 50, 52, 148, 149, 150, 151, 152, 153, 154, 47, 155, 56, 156, 133, 157, 158, 159, 27, 160, 61, 161, 640, 641, 642, 643, 644, 645, 646, 647, 648, 324, 325, 326, 327, 931, 932, 933, 934, 935, 936, 937, 938, 939, 958, 959, 960, 961, 962, 963, 989, 990, 969] (by decide +kernel) (by decide +kernel)
set_option maxRecDepth 20000 in
theorem gL_law_X8_restore : GoodIn wsL_law (wsV RL 79 RX8 yX8_restore wsX8_restore) := goodIn_app (goodIn_of _ (by decide +kernel)) ggL_law_X8_restore
set_option maxRecDepth 20000 in
theorem ggL_law_X9_restore : GoodIn wsL_law wsX9_restore := goodIn_r _ [665, 653, 106, 108, 186, 187, 188, 5, 189, 190, 107, 654, 655, 656, 657, 450, 451, 452, 453, 454, 111, 110, 422, 423, 424, 940, 941, 942, 943, 944, 945, 946, 947, 948, 949, 950, 951, 952, 953, 954, 955, 956, 957] (by decide +kernel) (by decide +kernel)
set_option maxRecDepth 20000 in
theorem gL_law_X9_restore : GoodIn wsL_law (wsV RL 82 RX9 yX9_restore wsX9_restore) := goodIn_app (goodIn_of _ (by decide +kernel)) ggL_law_X9_restore
set_option maxRecDepth 20000 in
theorem ggL_law_X8_card : GoodIn wsL_law wsX8_card := goodIn_r _ [669, 15, 32, 282, 283, 284, 47, 285, 133, 286, 248, 249, 250, 56, 171, 172, 173, 174, 354, 355, 356, 31, 357, 358, 80, 359, 360, 85, 86, 361, 207, 208, 209, 362, 363, 364, 14, 365, 52, 366, 325, 326, 27, 327, 61, 367, 368, 369, 370, 371, 81, 82, 83, 84, 372, 122, 2, 123, 373, 244, 245, 246, 166, 130, 131, 132, 247, 167, 168, 169, 170, 670, 671, 672, 673, 674, 495, 496, 497, 386, 387, 388, 389, 675, 383, 384, 385, 676, 677, 678, 679, 680, 399, 400, 401, 681, 407, 408, 409, 682, 931, 932, 933, 934, 935, 936, 937, 938, 939, 958, 959, 960, 989, 990, 970, 971, 972, 973, 974, 975, 976, 977, 978, 979, 969] (by decide +kernel) (by decide +kernel)
set_option maxRecDepth 20000 in
theorem gL_law_X8_card : GoodIn wsL_law (wsV RL 83 RX8 yX8_card wsX8_card) := goodIn_app (goodIn_of _ (by decide +kernel)) ggL_law_X8_card
set_option maxRecDepth 20000 in
theorem ggL_law_X9_card : GoodIn wsL_law wsX9_card := goodIn_r _ [686, 111, 292, 293, 294, 5, 295, 106, 183, 184, 185, 299, 300, 301, 302, 425, 426, 427, 428, 422, 423, 424, 429, 430, 431, 432, 441, 442, 443, 444, 445, 112, 446, 447, 448, 449, 450, 110, 451, 452, 453, 454, 687, 688, 689, 690, 940, 941, 942, 943, 944, 945, 946, 947, 948, 949, 950, 951, 952, 953, 954, 955, 956, 957] (by decide +kernel) (by decide +kernel)
set_option maxRecDepth 20000 in
theorem gL_law_X9_card : GoodIn wsL_law (wsV RL 86 RX9 yX9_card wsX9_card) := goodIn_app (goodIn_of _ (by decide +kernel)) ggL_law_X9_card
set_option maxRecDepth 20000 in
theorem ggL_law_X8_at : GoodIn wsL_law wsX8_at := goodIn_r _ [694, 15, 311, 312, 2, 313, 695, 319, 320, 27, 321, 322, 323, 324, 325, 326, 327, 61, 931, 932, 933, 934, 935, 936, 937, 938, 939, 958, 959, 960, 969] (by decide +kernel) (by decide +kernel)
set_option maxRecDepth 20000 in
theorem gL_law_X8_at : GoodIn wsL_law (wsV RL 87 RX8 yX8_at wsX8_at) := goodIn_app (goodIn_of _ (by decide +kernel)) ggL_law_X8_at
set_option maxRecDepth 20000 in
theorem ggL_law_X9_at : GoodIn wsL_law wsX9_at := goodIn_r _ [699, 106, 183, 184, 5, 185, 422, 423, 424, 940, 941, 942, 943, 944, 945, 946, 947, 948, 949, 950, 951, 952, 953, 954, 955, 956, 957] (by decide +kernel) (by decide +kernel)
set_option maxRecDepth 20000 in
theorem gL_law_X9_at : GoodIn wsL_law (wsV RL 90 RX9 yX9_at wsX9_at) := goodIn_app (goodIn_of _ (by decide +kernel)) ggL_law_X9_at
set_option maxRecDepth 20000 in
theorem ggL_law_X8_thread : GoodIn wsL_law wsX8_thread := goodIn_r _ [703, 32, 15, 36, 121, 122, 2, 123, 354, 355, 356, 31, 357, 358, 80, 359, 360, 85, 86, 361, 207, 208, 47, 209, 133, 362, 363, 364, 14, 365, 52, 366, 325, 326, 27, 327, 61, 367, 283, 284, 285, 368, 369, 370, 371, 81, 82, 83, 84, 372, 248, 249, 250, 56, 171, 172, 173, 174, 373, 244, 245, 246, 166, 130, 131, 132, 247, 167, 168, 169, 170, 374, 375, 376, 377, 378, 379, 380, 381, 382, 383, 384, 385, 386, 387, 388, 389, 390, 391, 392, 393, 394, 395, 396, 397, 398, 399, 400, 401, 402, 403, 404, 405, 406, 407, 408, 409, 410, 411, 412, 413, 704, 705, 706, 707, 483, 484, 485, 35, 486, 487, 90, 91, 92, 93, 488, 489, 490, 491, 492, 493, 494, 495, 496, 497, 498, 499, 500, 501, 502, 503, 504, 505, 708, 709, 710, 711, 95, 712, 713, 714, 715, 931, 932, 933, 934, 935, 936, 937, 938, 939, 958, 959, 960, 970, 971, 972, 973, 974, 975, 976, 977, 978, 979, 989, 990, 969, 980, 981, 982, 983, 984, 985, 986] (by decide +kernel) (by decide +kernel)
set_option maxRecDepth 20000 in
theorem gL_law_X8_thread : GoodIn wsL_law (wsV RL 91 RX8 yX8_thread wsX8_thread) := goodIn_app (goodIn_of _ (by decide +kernel)) ggL_law_X8_thread
set_option maxRecDepth 20000 in
theorem ggL_law_X9_thread : GoodIn wsL_law wsX9_thread := goodIn_r _ [719, 445, 183, 184, 5, 185, 720, 721, 722, 723, 106, 111, 451, 452, 453, 454, 450, 110, 422, 423, 424, 299, 300, 301, 302, 446, 447, 448, 449, 112, 441, 442, 443, 444, 425, 426, 427, 428, 724, 725, 726, 727, 114, 728, 729, 730, 731, 732, 733, 734, 735, 940, 941, 942, 943, 944, 945, 946, 947, 948, 949, 950, 951, 952, 953, 954, 955, 956, 957] (by decide +kernel) (by decide +kernel)
set_option maxRecDepth 20000 in
theorem gL_law_X9_thread : GoodIn wsL_law (wsV RL 94 RX9 yX9_thread wsX9_thread) := goodIn_app (goodIn_of _ (by decide +kernel)) ggL_law_X9_thread
