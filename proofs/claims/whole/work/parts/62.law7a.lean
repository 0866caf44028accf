set_option maxRecDepth 20000 in
theorem ggL_law_X8_init : GoodIn wsL_law wsX8_init := goodIn_r _ [8, 9, 10, 11, 12, 13, 14, 15, 16, 17, 18, 19, 20, 21, 22, 23, 24, 25, 26, 27, 28, 29, 30, 31, 32, 33, 34, 35, 36, 37, 38, 39, 40, 41, 42, 43, 44, 45, 46, 47, 48, 49, 50, 51, 52, 53, 54, 55, 56, 57, 58, 59, 60, 61, 62, 63, 64, 65, 66, 67, 68, 69, 70, 71, 72, 73, 74, 75, 76, 77, 78, 79, 80, 81, 82, 83, 84, 85, 86, 87, 88, 89, 90, 91, 92, 93, 94, 95, 96, 97, 98, 99, 100, 101, 958, 959, 960, 931, 932, 933, 934, 935, 936, 937, 938, 939, 961, 962, 963, 964, 965, 966, 967, 968, 969, 970, 971, 972, 973, 974, 975, 976, 977, 978, 979, 980, 981, 982, 983, 984, 985, 986, 987, 988, 989, 990] (by decide +kernel) (by decide +kernel)
set_option maxRecDepth 20000 in
theorem gL_law_X8_init : GoodIn wsL_law (wsX8_init) := ggL_law_X8_init
set_option maxRecDepth 20000 in
theorem ggL_law_X9_init : GoodIn wsL_law wsX9_init := goodIn_r _ [104, 105, 10, 11, 51, 106, 107, 108, 109, 110, 111, 112, 113, 114, 115, 71, 116, 940, 941, 942, 943, 944, 945, 946, 947, 948, 949, 950, 951, 952, 953, 954, 955, 956, 957] (by decide +kernel) (by decide +kernel)
set_option maxRecDepth 20000 in
theorem gL_law_X9_init : GoodIn wsL_law (wsX9_init) := ggL_law_X9_init
set_option maxRecDepth 20000 in
theorem ggL_law_X8_add : GoodIn wsL_law wsX8_add := goodIn_r _ [120, 15, 20, 121, 122, 2, 123, 124, 125, 126, 127, 128, 129, 130, 131, 47, 132, 133, 134, 135, 136, 19, 137, 138, 139, 140, 141, 142, 143, 67, 144, 145, 146, 14, 147, 48, 50, 52, 148, 149, 150, 151, 152, 153, 154, 155, 56, 156, 157, 158, 159, 27, 160, 61, 161, 162, 163, 164, 165, 166, 167, 168, 169, 170, 171, 172, 173, 174, 175, 176, 177, 178, 931, 932, 933, 934, 935, 936, 937, 938, 939, 958, 959, 960, 989, 990, 961, 962, 963, 969] (by decide +kernel) (by decide +kernel)
set_option maxRecDepth 20000 in
theorem gL_law_X8_add : GoodIn wsL_law (wsV RL 13 RX8 yX8_add wsX8_add) := goodIn_app (goodIn_of _ (by decide +kernel)) ggL_law_X8_add
set_option maxRecDepth 20000 in
theorem ggL_law_X9_add : GoodIn wsL_law wsX9_add := goodIn_r _ [182, 106, 183, 184, 5, 185, 186, 187, 188, 189, 190, 107, 191, 192, 193, 194, 940, 941, 942, 943, 944, 945, 946, 947, 948, 949, 950, 951, 952, 953, 954, 955, 956, 957] (by decide +kernel) (by decide +kernel)
set_option maxRecDepth 20000 in
theorem gL_law_X9_add : GoodIn wsL_law (wsV RL 17 RX9 yX9_add wsX9_add) := goodIn_app (goodIn_of _ (by decide +kernel)) ggL_law_X9_add
set_option maxRecDepth 20000 in
theorem ggL_law_X8_addAll : GoodIn wsL_law wsX8_addAll := goodIn_r _ [198, 24, 15, 20, 199, 200, 201, 23, 202, 74, 203, 204, 205, 206, 207, 208, 47, 209, 133, 210, 211, 212, 213, 214, 215, 216, 217, 72, 218, 219, 220, 221, 122, 2, 123, 222, 223, 224, 225, 226, 227, 228, 229, 230, 231, 232, 233, 234, 235, 236, 237, 238, 163, 164, 165, 166, 130, 131, 132, 167, 168, 169, 170, 56, 171, 172, 173, 174, 239, 240, 241, 242, 175, 176, 177, 178, 129, 134, 135, 136, 19, 137, 138, 139, 140, 141, 142, 143, 67, 144, 145, 146, 14, 147, 48, 50, 52, 148, 149, 150, 151, 152, 153, 154, 155, 156, 157, 158, 159, 27, 160, 61, 161, 243, 244, 245, 246, 247, 248, 249, 250, 931, 932, 933, 934, 935, 936, 937, 938, 939, 958, 959, 960, 964, 965, 966, 967, 968, 989, 990, 961, 962, 963, 969] (by decide +kernel) (by decide +kernel)
set_option maxRecDepth 20000 in
theorem gL_law_X8_addAll : GoodIn wsL_law (wsV RL 18 RX8 yX8_addAll wsX8_addAll) := goodIn_app (goodIn_of _ (by decide +kernel)) ggL_law_X8_addAll
set_option maxRecDepth 20000 in
theorem ggL_law_X9_addAll : GoodIn wsL_law wsX9_addAll := goodIn_r _ [254, 106, 255, 115, 256, 257, 258, 5, 259, 260, 261, 116, 262, 263, 264, 265, 266, 267, 268, 269, 270, 271, 272, 273, 274, 275, 276, 277, 186, 187, 188, 189, 190, 107, 191, 192, 193, 194, 940, 941, 942, 943, 944, 945, 946, 947, 948, 949, 950, 951, 952, 953, 954, 955, 956, 957] (by decide +kernel) (by decide +kernel)
set_option maxRecDepth 20000 in
theorem gL_law_X9_addAll : GoodIn wsL_law (wsV RL 22 RX9 yX9_addAll wsX9_addAll) := goodIn_app (goodIn_of _ (by decide +kernel)) ggL_law_X9_addAll
set_option maxRecDepth 20000 in
theorem ggL_law_X8_change : GoodIn wsL_law wsX8_change := goodIn_r _ [281, 15, 20, 282, 283, 284, 47, 285, 133, 124, 125, 2, 126, 127, 128, 286, 248, 249, 250, 56, 171, 172, 173, 174, 134, 135, 136, 19, 137, 138, 139, 140, 141, 142, 143, 67, 144, 145, 146, 14, 147, 48, 50, 52, 148, 149, 150, 151, 152, 153, 154, 155, 156, 157, 158, 159, 27, 160, 61, 161, 287, 168, 169, 170, 931, 932, 933, 934, 935, 936, 937, 938, 939, 958, 959, 960, 989, 990, 961, 962, 963, 969] (by decide +kernel) (by decide +kernel)
set_option maxRecDepth 20000 in
theorem gL_law_X8_change : GoodIn wsL_law (wsV RL 23 RX8 yX8_change wsX8_change) := goodIn_app (goodIn_of _ (by decide +kernel)) ggL_law_X8_change
set_option maxRecDepth 20000 in
theorem ggL_law_X9_change : GoodIn wsL_law wsX9_change := goodIn_r _ [291, 106, 292, 293, 294, 5, 295, 183, 184, 185, 296, 297, 298, 299, 300, 301, 302, 186, 187, 188, 189, 190, 107, 940, 941, 942, 943, 944, 945, 946, 947, 948, 949, 950, 951, 952, 953, 954, 955, 956, 957] (by decide +kernel) (by decide +kernel)
set_option maxRecDepth 20000 in
theorem gL_law_X9_change : GoodIn wsL_law (wsV RL 27 RX9 yX9_change wsX9_change) := goodIn_app (goodIn_of _ (by decide +kernel)) ggL_law_X9_change
set_option maxRecDepth 20000 in
theorem ggL_law_X8_pin : GoodIn wsL_law wsX8_pin := goodIn_r _ [306, 15, 20, 307, 308, 309, 2, 310, 282, 283, 284, 47, 285, 133, 311, 312, 313, 314, 315, 316, 27, 317, 318, 319, 320, 321, 322, 323, 324, 325, 326, 327, 61, 328, 329, 330, 331, 332, 333, 334, 335, 336, 337, 134, 135, 136, 19, 137, 138, 139, 140, 141, 142, 143, 67, 144, 145, 146, 14, 147, 48, 50, 52, 148, 149, 150, 151, 152, 153, 154, 155, 56, 156, 157, 158, 159, 160, 161, 338, 339, 340, 341, 342, 343, 344, 345, 346, 347, 348, 349, 286, 248, 249, 250, 171, 172, 173, 174, 350, 351, 352, 353, 32, 354, 355, 356, 31, 357, 358, 80, 359, 360, 85, 86, 361, 207, 208, 209, 362, 363, 364, 365, 366, 367, 368, 369, 370, 371, 81, 82, 83, 84, 372, 122, 123, 373, 244, 245, 246, 166, 130, 131, 132, 247, 167, 168, 169, 170, 374, 375, 376, 377, 378, 379, 380, 381, 382, 383, 384, 385, 386, 387, 388, 389, 390, 391, 392, 393, 394, 395, 396, 397, 398, 399, 400, 401, 402, 403, 404, 405, 406, 407, 408, 409, 410, 411, 412, 413, 931, 932, 933, 934, 935, 936, 937, 938, 939, 958, 959, 960, 989, 990, 969, 961, 962, 963, 970, 971, 972, 973, 974, 975, 976, 977, 978, 979] (by decide +kernel) (by decide +kernel)
set_option maxRecDepth 20000 in
theorem gL_law_X8_pin : GoodIn wsL_law (wsV RL 28 RX8 yX8_pin wsX8_pin) := goodIn_app (goodIn_of _ (by decide +kernel)) ggL_law_X8_pin
set_option maxRecDepth 20000 in
theorem ggL_law_X9_pin : GoodIn wsL_law wsX9_pin := goodIn_r _ [417, 418, 419, 420, 5, 421, 106, 292, 293, 294, 295, 183, 184, 185, 422, 423, 424, 425, 426, 427, 428, 429, 430, 431, 432, 186, 187, 188, 189, 190, 107, 433, 434, 435, 436, 437, 438, 439, 440, 299, 300, 301, 302, 441, 442, 443, 444, 445, 112, 446, 447, 448, 449, 450, 110, 451, 452, 453, 454, 111, 940, 941, 942, 943, 944, 945, 946, 947, 948, 949, 950, 951, 952, 953, 954, 955, 956, 957] (by decide +kernel) (by decide +kernel)
set_option maxRecDepth 20000 in
theorem gL_law_X9_pin : GoodIn wsL_law (wsV RL 31 RX9 yX9_pin wsX9_pin) := goodIn_app (goodIn_of _ (by decide +kernel)) ggL_law_X9_pin
