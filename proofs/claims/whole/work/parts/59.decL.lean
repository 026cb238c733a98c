set_option maxRecDepth 100000 in
theorem ggL_law_X3_init : GoodIn wsL_law wsX3_init := goodIn_r _ [9, 10, 11, 12, 13, 14, 15, 16, 17, 18, 19, 20, 21, 22, 23, 24, 25, 26, 27, 28, 29, 30, 31, 32, 33, 34, 35, 36, 37, 38, 39, 40, 41, 42, 43, 44, 45, 46, 47, 48, 49, 50, 51, 52, 53, 54, 55, 56, 57, 58, 59, 60, 61, 62, 957, 958, 959, 960, 961, 962, 929, 930, 931, 932, 933, 934, 935, 936, 937, 963, 964, 965, 966, 967, 968, 969, 970, 971] rfl (by decide +kernel)
set_option maxRecDepth 100000 in
theorem gL_law_X3_init : GoodIn wsL_law (wsX3_init) := ggL_law_X3_init
set_option maxRecDepth 100000 in
theorem ggL_law_X4_init : GoodIn wsL_law wsX4_init := goodIn_r _ [65, 66, 11, 12, 20, 67, 68, 69, 70, 71, 72, 73, 74, 75, 61, 76, 77, 78, 79, 80, 5, 81, 82, 83, 84, 938, 939, 940, 941, 942, 943, 944, 945, 946, 947, 948, 949, 950, 951, 952, 953, 954, 955, 956] rfl (by decide +kernel)
set_option maxRecDepth 100000 in
theorem gL_law_X4_init : GoodIn wsL_law (wsX4_init) := ggL_law_X4_init
set_option maxRecDepth 100000 in
theorem ggL_law_X3_of : GoodIn wsL_law wsX3_of := goodIn_r _ [88, 16, 89, 90, 91, 92, 93, 2, 94, 95, 96, 97, 98, 28, 99, 100, 101, 102, 15, 103, 39, 104, 105, 106, 107, 38, 108, 109, 110, 111, 112, 113, 114, 115, 36, 929, 930, 931, 932, 933, 934, 935, 936, 937, 957, 958, 959, 960, 961, 962] rfl (by decide +kernel)
set_option maxRecDepth 100000 in
theorem gL_law_X3_of : GoodIn wsL_law (wsV RL 13 RX3 yX3_of wsX3_of) := goodIn_app (goodIn_of _ (by decide +kernel)) ggL_law_X3_of
set_option maxRecDepth 100000 in
theorem ggL_law_X4_of : GoodIn wsL_law wsX4_of := goodIn_r _ [119, 120, 121, 122, 123, 5, 124, 125, 126, 127, 128, 129, 130, 131, 132, 71, 133, 134, 135, 136, 137, 138, 139, 140, 67, 82, 83, 84, 141, 142, 143, 144, 145, 146, 147, 148, 149, 150, 151, 152, 153, 154, 155, 156, 157, 158, 159, 160, 938, 939, 940, 941, 942, 943, 944, 945, 946, 947, 948, 949, 950, 951, 952, 953, 954, 955, 956] rfl (by decide +kernel)
set_option maxRecDepth 100000 in
theorem gL_law_X4_of : GoodIn wsL_law (wsV RL 17 RX4 yX4_of wsX4_of) := goodIn_app (goodIn_of _ (by decide +kernel)) ggL_law_X4_of
set_option maxRecDepth 100000 in
theorem ggL_law_X3_since : GoodIn wsL_law wsX3_since := goodIn_r _ [164, 16, 92, 93, 2, 94, 165, 166, 167, 95, 96, 97, 98, 28, 99, 168, 169, 170, 15, 171, 40, 172, 173, 174, 175, 41, 929, 930, 931, 932, 933, 934, 935, 936, 937, 957, 958, 959, 960, 961, 962] rfl (by decide +kernel)
set_option maxRecDepth 100000 in
theorem gL_law_X3_since : GoodIn wsL_law (wsV RL 18 RX3 yX3_since wsX3_since) := goodIn_app (goodIn_of _ (by decide +kernel)) ggL_law_X3_since
set_option maxRecDepth 100000 in
theorem ggL_law_X4_since : GoodIn wsL_law wsX4_since := goodIn_r _ [179, 121, 180, 122, 123, 5, 124, 125, 126, 127, 128, 181, 182, 183, 184, 129, 130, 131, 132, 71, 153, 154, 155, 156, 157, 158, 159, 160, 137, 138, 139, 140, 67, 82, 83, 84, 938, 939, 940, 941, 942, 943, 944, 945, 946, 947, 948, 949, 950, 951, 952, 953, 954, 955, 956] rfl (by decide +kernel)
set_option maxRecDepth 100000 in
theorem gL_law_X4_since : GoodIn wsL_law (wsV RL 21 RX4 yX4_since wsX4_since) := goodIn_app (goodIn_of _ (by decide +kernel)) ggL_law_X4_since
set_option maxRecDepth 100000 in
theorem ggL_law_X3_plant : GoodIn wsL_law wsX3_plant := goodIn_r _ [188, 16, 89, 92, 93, 2, 94, 189, 190, 191, 95, 96, 97, 98, 28, 99, 192, 193, 194, 15, 195, 38, 39, 40, 929, 930, 931, 932, 933, 934, 935, 936, 937, 957, 958, 959, 960, 961, 962] rfl (by decide +kernel)
set_option maxRecDepth 100000 in
theorem gL_law_X3_plant : GoodIn wsL_law (wsV RL 22 RX3 yX3_plant wsX3_plant) := goodIn_app (goodIn_of _ (by decide +kernel)) ggL_law_X3_plant
set_option maxRecDepth 100000 in
theorem ggL_law_X4_plant : GoodIn wsL_law wsX4_plant := goodIn_r _ [199, 121, 122, 123, 5, 124, 125, 126, 127, 128, 200, 201, 202, 120, 129, 130, 131, 132, 71, 137, 138, 139, 140, 67, 82, 83, 84, 78, 79, 80, 81, 938, 939, 940, 941, 942, 943, 944, 945, 946, 947, 948, 949, 950, 951, 952, 953, 954, 955, 956] rfl (by decide +kernel)
set_option maxRecDepth 100000 in
theorem gL_law_X4_plant : GoodIn wsL_law (wsV RL 25 RX4 yX4_plant wsX4_plant) := goodIn_app (goodIn_of _ (by decide +kernel)) ggL_law_X4_plant
set_option maxRecDepth 100000 in
theorem ggL_law_X3_turn : GoodIn wsL_law wsX3_turn := goodIn_r _ [206, 16, 89, 92, 93, 2, 94, 189, 190, 191, 95, 96, 97, 98, 28, 99, 929, 930, 931, 932, 933, 934, 935, 936, 937, 957, 958, 959, 960, 961, 962] rfl (by decide +kernel)
set_option maxRecDepth 100000 in
theorem gL_law_X3_turn : GoodIn wsL_law (wsV RL 26 RX3 yX3_turn wsX3_turn) := goodIn_app (goodIn_of _ (by decide +kernel)) ggL_law_X3_turn
set_option maxRecDepth 100000 in
theorem ggL_law_X4_turn : GoodIn wsL_law wsX4_turn := goodIn_r _ [210, 121, 122, 123, 5, 124, 125, 126, 127, 128, 200, 201, 202, 120, 82, 83, 84, 211, 212, 213, 214, 67, 129, 130, 131, 132, 71, 938, 939, 940, 941, 942, 943, 944, 945, 946, 947, 948, 949, 950, 951, 952, 953, 954, 955, 956] rfl (by decide +kernel)
set_option maxRecDepth 100000 in
theorem gL_law_X4_turn : GoodIn wsL_law (wsV RL 29 RX4 yX4_turn wsX4_turn) := goodIn_app (goodIn_of _ (by decide +kernel)) ggL_law_X4_turn
set_option maxRecDepth 100000 in
theorem ggL_law_X3_age : GoodIn wsL_law wsX3_age := goodIn_r _ [218, 16, 90, 92, 93, 2, 94, 219, 220, 221, 95, 96, 97, 98, 28, 99, 929, 930, 931, 932, 933, 934, 935, 936, 937, 957, 958, 959, 960, 961, 962] rfl (by decide +kernel)
set_option maxRecDepth 100000 in
theorem gL_law_X3_age : GoodIn wsL_law (wsV RL 30 RX3 yX3_age wsX3_age) := goodIn_app (goodIn_of _ (by decide +kernel)) ggL_law_X3_age
set_option maxRecDepth 100000 in
theorem ggL_law_X4_age : GoodIn wsL_law wsX4_age := goodIn_r _ [225, 226, 121, 122, 123, 5, 124, 125, 126, 127, 128, 82, 83, 84, 211, 212, 213, 214, 67, 129, 130, 131, 132, 71, 938, 939, 940, 941, 942, 943, 944, 945, 946, 947, 948, 949, 950, 951, 952, 953, 954, 955, 956] rfl (by decide +kernel)
set_option maxRecDepth 100000 in
theorem gL_law_X4_age : GoodIn wsL_law (wsV RL 33 RX4 yX4_age wsX4_age) := goodIn_app (goodIn_of _ (by decide +kernel)) ggL_law_X4_age
set_option maxRecDepth 100000 in
theorem ggL_law_X3_as : GoodIn wsL_law wsX3_as := goodIn_r _ [230, 16, 89, 90, 92, 93, 2, 94, 189, 190, 191, 95, 96, 97, 98, 28, 99, 231, 232, 233, 929, 930, 931, 932, 933, 934, 935, 936, 937, 957, 958, 959, 960, 961, 962] rfl (by decide +kernel)
set_option maxRecDepth 100000 in
theorem gL_law_X3_as : GoodIn wsL_law (wsV RL 34 RX3 yX3_as wsX3_as) := goodIn_app (goodIn_of _ (by decide +kernel)) ggL_law_X3_as
set_option maxRecDepth 100000 in
theorem ggL_law_X4_as : GoodIn wsL_law wsX4_as := goodIn_r _ [237, 121, 238, 122, 123, 5, 124, 125, 126, 127, 128, 200, 201, 202, 120, 129, 130, 131, 132, 71, 137, 138, 139, 140, 67, 82, 83, 84, 239, 240, 241, 938, 939, 940, 941, 942, 943, 944, 945, 946, 947, 948, 949, 950, 951, 952, 953, 954, 955, 956] rfl (by decide +kernel)
set_option maxRecDepth 100000 in
theorem gL_law_X4_as : GoodIn wsL_law (wsV RL 37 RX4 yX4_as wsX4_as) := goodIn_app (goodIn_of _ (by decide +kernel)) ggL_law_X4_as
set_option maxRecDepth 100000 in
theorem ggL_law_X3_meet : GoodIn wsL_law wsX3_meet := goodIn_r _ [245, 16, 246, 247, 2, 248, 95, 96, 97, 98, 28, 99, 249, 250, 251, 15, 252, 37, 253, 254, 255, 256, 929, 930, 931, 932, 933, 934, 935, 936, 937, 957, 958, 959, 960, 961, 962] rfl (by decide +kernel)
set_option maxRecDepth 100000 in
theorem gL_law_X3_meet : GoodIn wsL_law (wsV RL 38 RX3 yX3_meet wsX3_meet) := goodIn_app (goodIn_of _ (by decide +kernel)) ggL_law_X3_meet
set_option maxRecDepth 100000 in
theorem ggL_law_X4_meet : GoodIn wsL_law wsX4_meet := goodIn_r _ [260, 120, 121, 126, 127, 5, 128, 261, 262, 263, 264, 67, 265, 266, 267, 268, 129, 130, 131, 132, 71, 938, 939, 940, 941, 942, 943, 944, 945, 946, 947, 948, 949, 950, 951, 952, 953, 954, 955, 956] rfl (by decide +kernel)
set_option maxRecDepth 100000 in
theorem gL_law_X4_meet : GoodIn wsL_law (wsV RL 41 RX4 yX4_meet wsX4_meet) := goodIn_app (goodIn_of _ (by decide +kernel)) ggL_law_X4_meet
set_option maxRecDepth 100000 in
theorem ggL_law_X3_tell : GoodIn wsL_law wsX3_tell := goodIn_r _ [272, 16, 92, 93, 2, 94, 165, 166, 167, 95, 96, 97, 98, 28, 99, 168, 169, 170, 15, 171, 40, 273, 274, 275, 276, 41, 36, 277, 278, 279, 280, 281, 929, 930, 931, 932, 933, 934, 935, 936, 937, 957, 958, 959, 960, 961, 962] rfl (by decide +kernel)
set_option maxRecDepth 100000 in
theorem gL_law_X3_tell : GoodIn wsL_law (wsV RL 42 RX3 yX3_tell wsX3_tell) := goodIn_app (goodIn_of _ (by decide +kernel)) ggL_law_X3_tell
set_option maxRecDepth 100000 in
theorem ggL_law_X4_tell : GoodIn wsL_law wsX4_tell := goodIn_r _ [285, 121, 286, 67, 122, 123, 5, 124, 125, 126, 127, 128, 181, 182, 183, 184, 129, 130, 131, 132, 71, 153, 154, 155, 156, 157, 158, 159, 160, 137, 138, 139, 140, 82, 83, 84, 287, 288, 289, 290, 938, 939, 940, 941, 942, 943, 944, 945, 946, 947, 948, 949, 950, 951, 952, 953, 954, 955, 956] rfl (by decide +kernel)
set_option maxRecDepth 100000 in
theorem gL_law_X4_tell : GoodIn wsL_law (wsV RL 45 RX4 yX4_tell wsX4_tell) := goodIn_app (goodIn_of _ (by decide +kernel)) ggL_law_X4_tell
set_option maxRecDepth 100000 in
theorem ggL_law_X3_forget : GoodIn wsL_law wsX3_forget := goodIn_r _ [294, 16, 165, 166, 2, 167, 95, 96, 97, 98, 28, 99, 277, 278, 279, 15, 280, 281, 169, 170, 171, 40, 295, 296, 297, 298, 929, 930, 931, 932, 933, 934, 935, 936, 937, 957, 958, 959, 960, 961, 962] rfl (by decide +kernel)
set_option maxRecDepth 100000 in
theorem gL_law_X3_forget : GoodIn wsL_law (wsV RL 46 RX3 yX3_forget wsX3_forget) := goodIn_app (goodIn_of _ (by decide +kernel)) ggL_law_X3_forget
set_option maxRecDepth 100000 in
theorem ggL_law_X4_forget : GoodIn wsL_law wsX4_forget := goodIn_r _ [302, 121, 67, 181, 182, 5, 183, 184, 126, 127, 128, 129, 130, 131, 132, 71, 287, 288, 289, 290, 153, 154, 155, 156, 157, 158, 159, 160, 137, 138, 139, 140, 82, 83, 84, 938, 939, 940, 941, 942, 943, 944, 945, 946, 947, 948, 949, 950, 951, 952, 953, 954, 955, 956] rfl (by decide +kernel)
set_option maxRecDepth 100000 in
theorem gL_law_X4_forget : GoodIn wsL_law (wsV RL 50 RX4 yX4_forget wsX4_forget) := goodIn_app (goodIn_of _ (by decide +kernel)) ggL_law_X4_forget
set_option maxRecDepth 100000 in
theorem ggL_law_X3_years : GoodIn wsL_law wsX3_years := goodIn_r _ [306, 16, 307, 95, 96, 97, 2, 98, 28, 99, 308, 309, 310, 15, 311, 312, 313, 314, 315, 39, 316, 317, 106, 318, 36, 319, 320, 321, 322, 40, 323, 250, 251, 252, 37, 324, 113, 114, 115, 38, 325, 101, 102, 103, 104, 105, 107, 326, 327, 328, 329, 330, 173, 174, 175, 41, 331, 274, 275, 276, 332, 109, 110, 111, 333, 334, 335, 336, 337, 338, 929, 930, 931, 932, 933, 934, 935, 936, 937, 957, 958, 959, 960, 961, 962] rfl (by decide +kernel)
set_option maxRecDepth 100000 in
theorem gL_law_X3_years : GoodIn wsL_law (wsV RL 51 RX3 yX3_years wsX3_years) := goodIn_app (goodIn_of _ (by decide +kernel)) ggL_law_X3_years
set_option maxRecDepth 100000 in
theorem ggL_law_X4_years : GoodIn wsL_law wsX4_years := goodIn_r _ [342, 343, 121, 67, 286, 126, 127, 5, 128, 129, 130, 131, 132, 71, 344, 345, 346, 347, 348, 349, 350, 351, 72, 82, 83, 84, 137, 138, 139, 140, 352, 353, 354, 355, 145, 146, 147, 148, 133, 134, 135, 136, 356, 357, 358, 359, 153, 154, 155, 156, 157, 158, 159, 160, 265, 266, 267, 268, 141, 142, 143, 144, 360, 361, 362, 363, 364, 365, 366, 367, 149, 150, 151, 152, 938, 939, 940, 941, 942, 943, 944, 945, 946, 947, 948, 949, 950, 951, 952, 953, 954, 955, 956] rfl (by decide +kernel)
set_option maxRecDepth 100000 in
theorem gL_law_X4_years : GoodIn wsL_law (wsV RL 54 RX4 yX4_years wsX4_years) := goodIn_app (goodIn_of _ (by decide +kernel)) ggL_law_X4_years
set_option maxRecDepth 100000 in
theorem ggL_law_X3_gale : GoodIn wsL_law wsX3_gale := goodIn_r _ [371, 16, 372, 373, 374, 15, 375, 376, 377, 378, 379, 40, 380, 381, 382, 383, 384, 385, 386, 387, 388, 389, 390, 324, 113, 114, 115, 38, 36, 39, 281, 169, 170, 171, 331, 274, 275, 276, 41, 929, 930, 931, 932, 933, 934, 935, 936, 937, 957, 958, 959, 960, 961, 962] rfl (by decide +kernel)
set_option maxRecDepth 100000 in
theorem gL_law_X3_gale : GoodIn wsL_law (wsV RL 55 RX3 yX3_gale wsX3_gale) := goodIn_app (goodIn_of _ (by decide +kernel)) ggL_law_X3_gale
set_option maxRecDepth 100000 in
theorem ggL_law_X4_gale : GoodIn wsL_law wsX4_gale := goodIn_r _ [394, 395, 396, 397, 5, 398, 399, 400, 401, 402, 149, 150, 151, 152, 153, 154, 155, 156, 157, 158, 159, 160, 137, 138, 139, 140, 67, 82, 83, 84, 145, 146, 147, 148, 360, 361, 362, 363, 938, 939, 940, 941, 942, 943, 944, 945, 946, 947, 948, 949, 950, 951, 952, 953, 954, 955, 956] rfl (by decide +kernel)
set_option maxRecDepth 100000 in
theorem gL_law_X4_gale : GoodIn wsL_law (wsV RL 59 RX4 yX4_gale wsX4_gale) := goodIn_app (goodIn_of _ (by decide +kernel)) ggL_law_X4_gale
set_option maxRecDepth 100000 in
theorem ggL_law_X3_now : GoodIn wsL_law wsX3_now := goodIn_r _ [406, 16, 307, 407, 333, 334, 335, 15, 336, 40, 337, 2, 338, 408, 388, 389, 390, 409, 377, 378, 379, 380, 381, 382, 383, 384, 385, 386, 410, 411, 412, 413, 39, 95, 96, 97, 98, 28, 99, 929, 930, 931, 932, 933, 934, 935, 936, 937, 957, 958, 959, 960, 961, 962] rfl (by decide +kernel)
set_option maxRecDepth 100000 in
theorem gL_law_X3_now : GoodIn wsL_law (wsV RL 60 RX3 yX3_now wsX3_now) := goodIn_app (goodIn_of _ (by decide +kernel)) ggL_law_X3_now
set_option maxRecDepth 100000 in
theorem ggL_law_X4_now : GoodIn wsL_law wsX4_now := goodIn_r _ [417, 67, 121, 364, 365, 366, 5, 367, 149, 150, 151, 152, 153, 154, 155, 156, 157, 158, 159, 160, 137, 138, 139, 140, 82, 83, 84, 399, 400, 401, 402, 418, 419, 420, 421, 422, 423, 424, 425, 426, 427, 428, 129, 130, 131, 132, 71, 938, 939, 940, 941, 942, 943, 944, 945, 946, 947, 948, 949, 950, 951, 952, 953, 954, 955, 956] rfl (by decide +kernel)
set_option maxRecDepth 100000 in
theorem gL_law_X4_now : GoodIn wsL_law (wsV RL 63 RX4 yX4_now wsX4_now) := goodIn_app (goodIn_of _ (by decide +kernel)) ggL_law_X4_now
set_option maxRecDepth 100000 in
theorem ggL_law_X3_on : GoodIn wsL_law wsX3_on := goodIn_r _ [432, 18, 91, 92, 93, 2, 94, 95, 96, 97, 98, 28, 99, 433, 434, 435, 436, 16, 437, 438, 439, 15, 440, 36, 37, 38, 441, 442, 443, 444, 39, 40, 41, 308, 309, 310, 311, 312, 313, 314, 315, 316, 317, 106, 318, 319, 320, 321, 322, 323, 250, 251, 252, 324, 113, 114, 115, 325, 101, 102, 103, 104, 105, 107, 326, 327, 328, 329, 330, 173, 174, 175, 331, 274, 275, 276, 332, 109, 110, 111, 929, 930, 931, 932, 933, 934, 935, 936, 937, 957, 958, 959, 960, 961, 962] rfl (by decide +kernel)
set_option maxRecDepth 100000 in
theorem gL_law_X3_on : GoodIn wsL_law (wsV RL 64 RX3 yX3_on wsX3_on) := goodIn_app (goodIn_of _ (by decide +kernel)) ggL_law_X3_on
set_option maxRecDepth 100000 in
theorem ggL_law_X4_on : GoodIn wsL_law wsX4_on := goodIn_r _ [448, 449, 121, 122, 123, 5, 124, 125, 126, 127, 128, 129, 130, 131, 132, 71, 450, 451, 452, 453, 70, 67, 344, 345, 346, 347, 348, 349, 350, 351, 72, 82, 83, 84, 137, 138, 139, 140, 352, 353, 354, 355, 145, 146, 147, 148, 133, 134, 135, 136, 356, 357, 358, 359, 153, 154, 155, 156, 157, 158, 159, 160, 265, 266, 267, 268, 141, 142, 143, 144, 360, 361, 362, 363, 149, 150, 151, 152, 454, 455, 456, 457, 938, 939, 940, 941, 942, 943, 944, 945, 946, 947, 948, 949, 950, 951, 952, 953, 954, 955, 956] rfl (by decide +kernel)
set_option maxRecDepth 100000 in
theorem gL_law_X4_on : GoodIn wsL_law (wsV RL 67 RX4 yX4_on wsX4_on) := goodIn_app (goodIn_of _ (by decide +kernel)) ggL_law_X4_on
set_option maxRecDepth 100000 in
theorem ggL_law_X3_when : GoodIn wsL_law wsX3_when := goodIn_r _ [461, 21, 92, 93, 2, 94, 165, 166, 167, 95, 96, 97, 98, 28, 99, 462, 463, 464, 465, 18, 466, 43, 44, 45, 433, 434, 435, 436, 16, 437, 438, 439, 15, 440, 36, 37, 38, 441, 442, 443, 444, 39, 40, 41, 168, 169, 170, 171, 467, 313, 314, 315, 316, 317, 106, 318, 319, 320, 321, 322, 323, 250, 251, 252, 324, 113, 114, 115, 325, 101, 102, 103, 104, 105, 107, 326, 327, 328, 329, 330, 173, 174, 175, 331, 274, 275, 276, 332, 109, 110, 111, 929, 930, 931, 932, 933, 934, 935, 936, 937, 957, 958, 959, 960, 961, 962] rfl (by decide +kernel)
set_option maxRecDepth 100000 in
theorem gL_law_X3_when : GoodIn wsL_law (wsV RL 68 RX3 yX3_when wsX3_when) := goodIn_app (goodIn_of _ (by decide +kernel)) ggL_law_X3_when
set_option maxRecDepth 100000 in
theorem ggL_law_X4_when : GoodIn wsL_law wsX4_when := goodIn_r _ [471, 121, 122, 123, 5, 124, 125, 126, 127, 128, 181, 182, 183, 184, 472, 473, 474, 475, 450, 451, 452, 453, 70, 67, 153, 154, 155, 156, 157, 158, 159, 160, 137, 138, 139, 140, 82, 83, 84, 348, 349, 350, 351, 72, 352, 353, 354, 355, 145, 146, 147, 148, 133, 134, 135, 136, 356, 357, 358, 359, 265, 266, 267, 268, 141, 142, 143, 144, 360, 361, 362, 363, 454, 455, 456, 457, 476, 477, 478, 479, 180, 129, 130, 131, 132, 71, 938, 939, 940, 941, 942, 943, 944, 945, 946, 947, 948, 949, 950, 951, 952, 953, 954, 955, 956] rfl (by decide +kernel)
set_option maxRecDepth 100000 in
theorem gL_law_X4_when : GoodIn wsL_law (wsV RL 71 RX4 yX4_when wsX4_when) := goodIn_app (goodIn_of _ (by decide +kernel)) ggL_law_X4_when
set_option maxRecDepth 100000 in
theorem ggL_law_X3_home : GoodIn wsL_law wsX3_home := goodIn_r _ [483, 165, 166, 2, 167, 95, 96, 97, 98, 28, 99, 484, 485, 486, 487, 18, 433, 434, 435, 436, 16, 437, 438, 439, 15, 440, 36, 37, 38, 441, 442, 443, 444, 39, 40, 41, 488, 489, 490, 491, 337, 338, 281, 169, 170, 171, 312, 313, 314, 315, 316, 317, 106, 318, 319, 320, 321, 322, 323, 250, 251, 252, 324, 113, 114, 115, 325, 101, 102, 103, 104, 105, 107, 326, 327, 328, 329, 330, 173, 174, 175, 331, 274, 275, 276, 332, 109, 110, 111, 929, 930, 931, 932, 933, 934, 935, 936, 937, 957, 958, 959, 960, 961, 962] rfl (by decide +kernel)
set_option maxRecDepth 100000 in
theorem gL_law_X3_home : GoodIn wsL_law (wsV RL 72 RX3 yX3_home wsX3_home) := goodIn_app (goodIn_of _ (by decide +kernel)) ggL_law_X3_home
set_option maxRecDepth 100000 in
theorem ggL_law_X4_home : GoodIn wsL_law wsX4_home := goodIn_r _ [495, 121, 181, 182, 5, 183, 184, 126, 127, 128, 472, 473, 474, 475, 450, 451, 452, 453, 70, 67, 153, 154, 155, 156, 157, 158, 159, 160, 137, 138, 139, 140, 82, 83, 84, 348, 349, 350, 351, 72, 352, 353, 354, 355, 145, 146, 147, 148, 133, 134, 135, 136, 356, 357, 358, 359, 265, 266, 267, 268, 141, 142, 143, 144, 360, 361, 362, 363, 454, 455, 456, 457, 476, 477, 478, 479, 180, 129, 130, 131, 132, 71, 938, 939, 940, 941, 942, 943, 944, 945, 946, 947, 948, 949, 950, 951, 952, 953, 954, 955, 956] rfl (by decide +kernel)
set_option maxRecDepth 100000 in
theorem gL_law_X4_home : GoodIn wsL_law (wsV RL 75 RX4 yX4_home wsX4_home) := goodIn_app (goodIn_of _ (by decide +kernel)) ggL_law_X4_home
set_option maxRecDepth 100000 in
theorem ggL_law_X3_last : GoodIn wsL_law wsX3_last := goodIn_r _ [499, 21, 165, 166, 2, 167, 95, 96, 97, 98, 28, 99, 462, 463, 464, 465, 18, 466, 43, 44, 45, 433, 434, 435, 436, 16, 437, 438, 439, 15, 440, 36, 37, 38, 441, 442, 443, 444, 39, 40, 41, 168, 169, 170, 171, 467, 313, 314, 315, 316, 317, 106, 318, 319, 320, 321, 322, 323, 250, 251, 252, 324, 113, 114, 115, 325, 101, 102, 103, 104, 105, 107, 326, 327, 328, 329, 330, 173, 174, 175, 331, 274, 275, 276, 332, 109, 110, 111, 929, 930, 931, 932, 933, 934, 935, 936, 937, 957, 958, 959, 960, 961, 962] rfl (by decide +kernel)
set_option maxRecDepth 100000 in
theorem gL_law_X3_last : GoodIn wsL_law (wsV RL 76 RX3 yX3_last wsX3_last) := goodIn_app (goodIn_of _ (by decide +kernel)) ggL_law_X3_last
set_option maxRecDepth 100000 in
theorem ggL_law_X4_last : GoodIn wsL_law wsX4_last := goodIn_r _ [503, 121, 181, 182, 5, 183, 184, 126, 127, 128, 129, 130, 131, 132, 71, 472, 473, 474, 475, 450, 451, 452, 453, 70, 67, 153, 154, 155, 156, 157, 158, 159, 160, 137, 138, 139, 140, 82, 83, 84, 348, 349, 350, 351, 72, 352, 353, 354, 355, 145, 146, 147, 148, 133, 134, 135, 136, 356, 357, 358, 359, 265, 266, 267, 268, 141, 142, 143, 144, 360, 361, 362, 363, 454, 455, 456, 457, 938, 939, 940, 941, 942, 943, 944, 945, 946, 947, 948, 949, 950, 951, 952, 953, 954, 955, 956] rfl (by decide +kernel)
set_option maxRecDepth 100000 in
theorem gL_law_X4_last : GoodIn wsL_law (wsV RL 79 RX4 yX4_last wsX4_last) := goodIn_app (goodIn_of _ (by decide +kernel)) ggL_law_X4_last
set_option maxRecDepth 100000 in
theorem ggL_law_X3_introduce : GoodIn wsL_law wsX3_introduce := goodIn_r _ [507, 16, 18, 165, 166, 2, 167, 95, 96, 97, 98, 28, 99, 484, 485, 486, 487, 433, 434, 435, 436, 437, 438, 439, 15, 440, 36, 37, 38, 441, 442, 443, 444, 39, 40, 41, 488, 489, 490, 491, 337, 338, 281, 169, 170, 171, 312, 313, 314, 315, 316, 317, 106, 318, 319, 320, 321, 322, 323, 250, 251, 252, 324, 113, 114, 115, 325, 101, 102, 103, 104, 105, 107, 326, 327, 328, 329, 330, 173, 174, 175, 331, 274, 275, 276, 332, 109, 110, 111, 249, 253, 254, 255, 256, 929, 930, 931, 932, 933, 934, 935, 936, 937, 957, 958, 959, 960, 961, 962] rfl (by decide +kernel)
set_option maxRecDepth 100000 in
theorem gL_law_X3_introduce : GoodIn wsL_law (wsV RL 80 RX3 yX3_introduce wsX3_introduce) := goodIn_app (goodIn_of _ (by decide +kernel)) ggL_law_X3_introduce
set_option maxRecDepth 100000 in
theorem ggL_law_X4_introduce : GoodIn wsL_law wsX4_introduce := goodIn_r _ [511, 121, 67, 181, 182, 5, 183, 184, 126, 127, 128, 129, 130, 131, 132, 71, 472, 473, 474, 475, 450, 451, 452, 453, 70, 153, 154, 155, 156, 157, 158, 159, 160, 137, 138, 139, 140, 82, 83, 84, 348, 349, 350, 351, 72, 352, 353, 354, 355, 145, 146, 147, 148, 133, 134, 135, 136, 356, 357, 358, 359, 265, 266, 267, 268, 141, 142, 143, 144, 360, 361, 362, 363, 454, 455, 456, 457, 512, 513, 514, 515, 516, 517, 518, 519, 520, 521, 522, 523, 524, 525, 180, 938, 939, 940, 941, 942, 943, 944, 945, 946, 947, 948, 949, 950, 951, 952, 953, 954, 955, 956] rfl (by decide +kernel)
set_option maxRecDepth 100000 in
theorem gL_law_X4_introduce : GoodIn wsL_law (wsV RL 83 RX4 yX4_introduce wsX4_introduce) := goodIn_app (goodIn_of _ (by decide +kernel)) ggL_law_X4_introduce
set_option maxRecDepth 100000 in
theorem ggL_law_X3_lime : GoodIn wsL_law wsX3_lime := goodIn_r _ [529, 16, 89, 165, 166, 2, 167, 95, 96, 97, 98, 28, 99, 484, 485, 486, 487, 18, 433, 434, 435, 436, 437, 438, 439, 15, 440, 36, 37, 38, 441, 442, 443, 444, 39, 40, 41, 488, 489, 490, 491, 337, 338, 281, 169, 170, 171, 312, 313, 314, 315, 316, 317, 106, 318, 319, 320, 321, 322, 323, 250, 251, 252, 324, 113, 114, 115, 325, 101, 102, 103, 104, 105, 107, 326, 327, 328, 329, 330, 173, 174, 175, 331, 274, 275, 276, 332, 109, 110, 111, 530, 531, 532, 533, 929, 930, 931, 932, 933, 934, 935, 936, 937, 957, 958, 959, 960, 961, 962] rfl (by decide +kernel)
set_option maxRecDepth 100000 in
theorem gL_law_X3_lime : GoodIn wsL_law (wsV RL 84 RX3 yX3_lime wsX3_lime) := goodIn_app (goodIn_of _ (by decide +kernel)) ggL_law_X3_lime
set_option maxRecDepth 100000 in
theorem ggL_law_X4_lime : GoodIn wsL_law wsX4_lime := goodIn_r _ [537, 121, 67, 181, 182, 5, 183, 184, 126, 127, 128, 129, 130, 131, 132, 71, 472, 473, 474, 475, 450, 451, 452, 453, 70, 153, 154, 155, 156, 157, 158, 159, 160, 137, 138, 139, 140, 82, 83, 84, 348, 349, 350, 351, 72, 352, 353, 354, 355, 145, 146, 147, 148, 133, 134, 135, 136, 356, 357, 358, 359, 265, 266, 267, 268, 141, 142, 143, 144, 360, 361, 362, 363, 454, 455, 456, 457, 512, 513, 514, 515, 516, 517, 211, 212, 213, 214, 518, 519, 520, 521, 522, 523, 524, 525, 180, 938, 939, 940, 941, 942, 943, 944, 945, 946, 947, 948, 949, 950, 951, 952, 953, 954, 955, 956] rfl (by decide +kernel)
set_option maxRecDepth 100000 in
theorem gL_law_X4_lime : GoodIn wsL_law (wsV RL 87 RX4 yX4_lime wsX4_lime) := goodIn_app (goodIn_of _ (by decide +kernel)) ggL_law_X4_lime
set_option maxRecDepth 100000 in
theorem ggL_law_X3_kind : GoodIn wsL_law wsX3_kind := goodIn_r _ [541, 92, 93, 2, 94, 165, 166, 167, 95, 96, 97, 98, 28, 99, 530, 531, 532, 533, 18, 89, 433, 434, 435, 436, 16, 437, 438, 439, 15, 440, 36, 37, 38, 441, 442, 443, 444, 39, 40, 41, 488, 489, 490, 491, 337, 338, 281, 169, 170, 171, 312, 313, 314, 315, 316, 317, 106, 318, 319, 320, 321, 322, 323, 250, 251, 252, 324, 113, 114, 115, 325, 101, 102, 103, 104, 105, 107, 326, 327, 328, 329, 330, 173, 174, 175, 331, 274, 275, 276, 332, 109, 110, 111, 929, 930, 931, 932, 933, 934, 935, 936, 937, 957, 958, 959, 960, 961, 962] rfl (by decide +kernel)
set_option maxRecDepth 100000 in
theorem gL_law_X3_kind : GoodIn wsL_law (wsV RL 88 RX3 yX3_kind wsX3_kind) := goodIn_app (goodIn_of _ (by decide +kernel)) ggL_law_X3_kind
set_option maxRecDepth 100000 in
theorem ggL_law_X4_kind : GoodIn wsL_law wsX4_kind := goodIn_r _ [545, 121, 67, 122, 123, 5, 124, 125, 126, 127, 128, 181, 182, 183, 184, 129, 130, 131, 132, 71, 512, 513, 514, 515, 516, 517, 137, 138, 139, 140, 82, 83, 84, 472, 473, 474, 475, 450, 451, 452, 453, 70, 153, 154, 155, 156, 157, 158, 159, 160, 348, 349, 350, 351, 72, 352, 353, 354, 355, 145, 146, 147, 148, 133, 134, 135, 136, 356, 357, 358, 359, 265, 266, 267, 268, 141, 142, 143, 144, 360, 361, 362, 363, 454, 455, 456, 457, 518, 519, 520, 521, 522, 523, 524, 525, 180, 938, 939, 940, 941, 942, 943, 944, 945, 946, 947, 948, 949, 950, 951, 952, 953, 954, 955, 956] rfl (by decide +kernel)
set_option maxRecDepth 100000 in
theorem gL_law_X4_kind : GoodIn wsL_law (wsV RL 91 RX4 yX4_kind wsX4_kind) := goodIn_app (goodIn_of _ (by decide +kernel)) ggL_law_X4_kind
set_option maxRecDepth 100000 in
theorem ggL_law_X3_delay : GoodIn wsL_law wsX3_delay := goodIn_r _ [549, 19, 18, 95, 96, 97, 2, 98, 28, 99, 433, 434, 435, 436, 16, 437, 438, 439, 15, 440, 36, 37, 38, 441, 442, 443, 444, 39, 40, 41, 372, 373, 374, 375, 376, 377, 378, 379, 380, 381, 382, 383, 384, 385, 386, 387, 388, 389, 390, 324, 113, 114, 115, 281, 169, 170, 171, 331, 274, 275, 276, 308, 309, 310, 311, 312, 313, 314, 315, 316, 317, 106, 318, 319, 320, 321, 322, 323, 250, 251, 252, 325, 101, 102, 103, 104, 105, 107, 326, 327, 328, 329, 330, 173, 174, 175, 332, 109, 110, 111, 409, 929, 930, 931, 932, 933, 934, 935, 936, 937, 957, 958, 959, 960, 961, 962] rfl (by decide +kernel)
set_option maxRecDepth 100000 in
theorem gL_law_X3_delay : GoodIn wsL_law (wsV RL 92 RX3 yX3_delay wsX3_delay) := goodIn_app (goodIn_of _ (by decide +kernel)) ggL_law_X3_delay
set_option maxRecDepth 100000 in
theorem ggL_law_X4_delay : GoodIn wsL_law wsX4_delay := goodIn_r _ [553, 554, 121, 126, 127, 5, 128, 129, 130, 131, 132, 71, 450, 451, 452, 453, 70, 67, 344, 345, 346, 347, 348, 349, 350, 351, 72, 82, 83, 84, 137, 138, 139, 140, 352, 353, 354, 355, 145, 146, 147, 148, 133, 134, 135, 136, 356, 357, 358, 359, 153, 154, 155, 156, 157, 158, 159, 160, 265, 266, 267, 268, 141, 142, 143, 144, 360, 361, 362, 363, 395, 396, 397, 398, 399, 400, 401, 402, 149, 150, 151, 152, 418, 419, 420, 421, 422, 423, 424, 454, 455, 456, 457, 938, 939, 940, 941, 942, 943, 944, 945, 946, 947, 948, 949, 950, 951, 952, 953, 954, 955, 956] rfl (by decide +kernel)
set_option maxRecDepth 100000 in
theorem gL_law_X4_delay : GoodIn wsL_law (wsV RL 95 RX4 yX4_delay wsX4_delay) := goodIn_app (goodIn_of _ (by decide +kernel)) ggL_law_X4_delay
set_option maxRecDepth 100000 in
theorem ggL_law_X3_side : GoodIn wsL_law wsX3_side := goodIn_r _ [558, 16, 18, 165, 166, 2, 167, 95, 96, 97, 98, 28, 99, 277, 278, 279, 15, 280, 281, 169, 170, 171, 40, 433, 434, 435, 436, 437, 438, 439, 440, 36, 37, 38, 441, 442, 443, 444, 39, 41, 559, 337, 338, 273, 274, 275, 276, 488, 489, 490, 491, 312, 313, 314, 315, 316, 317, 106, 318, 319, 320, 321, 322, 323, 250, 251, 252, 324, 113, 114, 115, 325, 101, 102, 103, 104, 105, 107, 326, 327, 328, 329, 330, 173, 174, 175, 331, 332, 109, 110, 111, 929, 930, 931, 932, 933, 934, 935, 936, 937, 957, 958, 959, 960, 961, 962] rfl (by decide +kernel)
set_option maxRecDepth 100000 in
theorem gL_law_X3_side : GoodIn wsL_law (wsV RL 96 RX3 yX3_side wsX3_side) := goodIn_app (goodIn_of _ (by decide +kernel)) ggL_law_X3_side
set_option maxRecDepth 100000 in
theorem ggL_law_X4_side : GoodIn wsL_law wsX4_side := goodIn_r _ [563, 121, 286, 67, 181, 182, 5, 183, 184, 126, 127, 128, 129, 130, 131, 132, 71, 287, 288, 289, 290, 153, 154, 155, 156, 157, 158, 159, 160, 137, 138, 139, 140, 82, 83, 84, 512, 513, 514, 515, 516, 517, 472, 473, 474, 475, 450, 451, 452, 453, 70, 348, 349, 350, 351, 72, 352, 353, 354, 355, 145, 146, 147, 148, 133, 134, 135, 136, 356, 357, 358, 359, 265, 266, 267, 268, 141, 142, 143, 144, 360, 361, 362, 363, 454, 455, 456, 457, 518, 519, 520, 521, 522, 523, 524, 525, 180, 938, 939, 940, 941, 942, 943, 944, 945, 946, 947, 948, 949, 950, 951, 952, 953, 954, 955, 956] rfl (by decide +kernel)
set_option maxRecDepth 100000 in
theorem gL_law_X4_side : GoodIn wsL_law (wsV RL 99 RX4 yX4_side wsX4_side) := goodIn_app (goodIn_of _ (by decide +kernel)) ggL_law_X4_side
set_option maxRecDepth 100000 in
theorem ggL_law_X3_needed : GoodIn wsL_law wsX3_needed := goodIn_r _ [567, 18, 165, 166, 2, 167, 95, 96, 97, 98, 28, 99, 433, 434, 435, 436, 16, 437, 438, 439, 15, 440, 36, 37, 38, 441, 442, 443, 444, 39, 40, 41, 192, 193, 194, 195, 488, 489, 490, 491, 337, 338, 281, 169, 170, 171, 312, 313, 314, 315, 316, 317, 106, 318, 319, 320, 321, 322, 323, 250, 251, 252, 324, 113, 114, 115, 325, 101, 102, 103, 104, 105, 107, 326, 327, 328, 329, 330, 173, 174, 175, 331, 274, 275, 276, 332, 109, 110, 111, 929, 930, 931, 932, 933, 934, 935, 936, 937, 957, 958, 959, 960, 961, 962] rfl (by decide +kernel)
set_option maxRecDepth 100000 in
theorem gL_law_X3_needed : GoodIn wsL_law (wsV RL 100 RX3 yX3_needed wsX3_needed) := goodIn_app (goodIn_of _ (by decide +kernel)) ggL_law_X3_needed
set_option maxRecDepth 100000 in
theorem ggL_law_X4_needed : GoodIn wsL_law wsX4_needed := goodIn_r _ [571, 121, 67, 181, 182, 5, 183, 184, 126, 127, 128, 129, 130, 131, 132, 71, 82, 83, 84, 211, 212, 213, 214, 472, 473, 474, 475, 450, 451, 452, 453, 70, 153, 154, 155, 156, 157, 158, 159, 160, 137, 138, 139, 140, 348, 349, 350, 351, 72, 352, 353, 354, 355, 145, 146, 147, 148, 133, 134, 135, 136, 356, 357, 358, 359, 265, 266, 267, 268, 141, 142, 143, 144, 360, 361, 362, 363, 454, 455, 456, 457, 938, 939, 940, 941, 942, 943, 944, 945, 946, 947, 948, 949, 950, 951, 952, 953, 954, 955, 956] rfl (by decide +kernel)
set_option maxRecDepth 100000 in
theorem gL_law_X4_needed : GoodIn wsL_law (wsV RL 103 RX4 yX4_needed wsX4_needed) := goodIn_app (goodIn_of _ (by decide +kernel)) ggL_law_X4_needed
set_option maxRecDepth 100000 in
theorem ggL_law_X3_feed : GoodIn wsL_law wsX3_feed := goodIn_r _ [575, 25, 576, 95, 96, 97, 2, 98, 28, 99, 577, 578, 579, 24, 580, 49, 51, 929, 930, 931, 932, 933, 934, 935, 936, 937, 963, 964, 965, 966, 967, 968] rfl (by decide +kernel)
set_option maxRecDepth 100000 in
theorem gL_law_X3_feed : GoodIn wsL_law (wsV RL 104 RX3 yX3_feed wsX3_feed) := goodIn_app (goodIn_of _ (by decide +kernel)) ggL_law_X3_feed
set_option maxRecDepth 100000 in
theorem ggL_law_X4_feed : GoodIn wsL_law wsX4_feed := goodIn_r _ [584, 585, 121, 586, 587, 73, 126, 127, 5, 128, 129, 130, 131, 132, 71, 938, 939, 940, 941, 942, 943, 944, 945, 946, 947, 948, 949, 950, 951, 952, 953, 954, 955, 956] rfl (by decide +kernel)
set_option maxRecDepth 100000 in
theorem gL_law_X4_feed : GoodIn wsL_law (wsV RL 107 RX4 yX4_feed wsX4_feed) := goodIn_app (goodIn_of _ (by decide +kernel)) ggL_law_X4_feed
set_option maxRecDepth 100000 in
theorem ggL_law_X3_wipe : GoodIn wsL_law wsX3_wipe := goodIn_r _ [591, 25, 576, 929, 930, 931, 932, 933, 934, 935, 936, 937, 963, 964, 965, 966, 967, 968] rfl (by decide +kernel)
set_option maxRecDepth 100000 in
theorem gL_law_X3_wipe : GoodIn wsL_law (wsV RL 108 RX3 yX3_wipe wsX3_wipe) := goodIn_app (goodIn_of _ (by decide +kernel)) ggL_law_X3_wipe
set_option maxRecDepth 100000 in
theorem ggL_law_X4_wipe : GoodIn wsL_law wsX4_wipe := goodIn_r _ [595, 586, 938, 939, 940, 941, 942, 943, 944, 945, 946, 947, 948, 949, 950, 951, 952, 953, 954, 955, 956] rfl (by decide +kernel)
set_option maxRecDepth 100000 in
theorem gL_law_X4_wipe : GoodIn wsL_law (wsV RL 111 RX4 yX4_wipe wsX4_wipe) := goodIn_app (goodIn_of _ (by decide +kernel)) ggL_law_X4_wipe
set_option maxRecDepth 100000 in
theorem ggL_law_X3_avenue : GoodIn wsL_law wsX3_avenue := goodIn_r _ [599, 25, 18, 16, 576, 433, 434, 435, 2, 436, 437, 438, 439, 15, 440, 36, 37, 38, 441, 442, 443, 444, 39, 40, 41, 600, 601, 602, 24, 603, 53, 54, 52, 604, 605, 606, 607, 49, 51, 55, 608, 317, 106, 318, 609, 610, 611, 612, 613, 614, 615, 616, 617, 618, 619, 620, 621, 622, 623, 624, 625, 626, 627, 628, 629, 630, 631, 632, 633, 634, 635, 636, 637, 638, 639, 640, 641, 642, 643, 644, 645, 646, 647, 648, 649, 650, 651, 652, 653, 654, 655, 656, 657, 658, 659, 660, 661, 662, 663, 664, 665, 666, 667, 668, 669, 670, 671, 672, 673, 674, 675, 676, 677, 678, 679, 680, 681, 682, 337, 338, 683, 193, 194, 195, 684, 685, 686, 687, 688, 254, 255, 256, 689, 690, 691, 692, 693, 169, 170, 171, 694, 274, 275, 276, 929, 930, 931, 932, 933, 934, 935, 936, 937, 963, 964, 965, 966, 967, 968, 957, 958, 959, 960, 961, 962] rfl (by decide +kernel)
set_option maxRecDepth 100000 in
theorem gL_law_X3_avenue : GoodIn wsL_law (wsV RL 112 RX3 yX3_avenue wsX3_avenue) := goodIn_app (goodIn_of _ (by decide +kernel)) ggL_law_X3_avenue
set_option maxRecDepth 100000 in
theorem ggL_law_X4_avenue : GoodIn wsL_law wsX4_avenue := goodIn_r _ [698, 699, 700, 701, 586, 702, 703, 704, 5, 705, 69, 67, 706, 707, 708, 709, 710, 711, 712, 713, 73, 714, 715, 716, 717, 718, 126, 127, 128, 719, 720, 721, 722, 723, 724, 725, 726, 727, 728, 729, 730, 731, 732, 733, 734, 735, 736, 737, 738, 739, 740, 741, 742, 743, 744, 745, 746, 747, 748, 749, 750, 751, 752, 753, 754, 755, 756, 757, 758, 759, 760, 761, 78, 79, 80, 81, 82, 83, 84, 762, 763, 764, 765, 360, 361, 362, 363, 153, 154, 155, 156, 157, 158, 159, 160, 137, 138, 139, 140, 261, 262, 263, 264, 265, 266, 267, 268, 766, 767, 768, 769, 938, 939, 940, 941, 942, 943, 944, 945, 946, 947, 948, 949, 950, 951, 952, 953, 954, 955, 956] rfl (by decide +kernel)
set_option maxRecDepth 100000 in
theorem gL_law_X4_avenue : GoodIn wsL_law (wsV RL 115 RX4 yX4_avenue wsX4_avenue) := goodIn_app (goodIn_of _ (by decide +kernel)) ggL_law_X4_avenue
set_option maxRecDepth 100000 in
theorem ggL_law_X3_sheet : GoodIn wsL_law wsX3_sheet := goodIn_r _ [773, 27, 774, 775, 776, 2, 777, 778, 779, 780, 95, 96, 97, 98, 28, 99, 781, 782, 783, 31, 784, 59, 60, 62, 785, 786, 44, 787, 929, 930, 931, 932, 933, 934, 935, 936, 937, 969, 970, 971] rfl (by decide +kernel)
set_option maxRecDepth 100000 in
theorem gL_law_X3_sheet : GoodIn wsL_law (wsV RL 116 RX3 yX3_sheet wsX3_sheet) := goodIn_app (goodIn_of _ (by decide +kernel)) ggL_law_X3_sheet
set_option maxRecDepth 100000 in
theorem ggL_law_X4_sheet : GoodIn wsL_law wsX4_sheet := goodIn_r _ [791, 121, 792, 74, 75, 76, 793, 794, 5, 795, 796, 126, 127, 128, 129, 130, 131, 132, 71, 938, 939, 940, 941, 942, 943, 944, 945, 946, 947, 948, 949, 950, 951, 952, 953, 954, 955, 956] rfl (by decide +kernel)
set_option maxRecDepth 100000 in
theorem gL_law_X4_sheet : GoodIn wsL_law (wsV RL 120 RX4 yX4_sheet wsX4_sheet) := goodIn_app (goodIn_of _ (by decide +kernel)) ggL_law_X4_sheet
set_option maxRecDepth 100000 in
theorem ggL_law_X3_write : GoodIn wsL_law wsX3_write := goodIn_r _ [800, 27, 774, 801, 775, 776, 2, 777, 95, 96, 97, 98, 28, 99, 802, 803, 804, 31, 805, 59, 806, 807, 808, 809, 62, 929, 930, 931, 932, 933, 934, 935, 936, 937, 969, 970, 971] rfl (by decide +kernel)
set_option maxRecDepth 100000 in
theorem gL_law_X3_write : GoodIn wsL_law (wsV RL 123 RX3 yX3_write wsX3_write) := goodIn_app (goodIn_of _ (by decide +kernel)) ggL_law_X3_write
set_option maxRecDepth 100000 in
theorem ggL_law_X4_write : GoodIn wsL_law wsX4_write := goodIn_r _ [813, 75, 121, 76, 74, 814, 815, 816, 5, 817, 818, 793, 794, 795, 796, 126, 127, 128, 129, 130, 131, 132, 71, 819, 820, 821, 938, 939, 940, 941, 942, 943, 944, 945, 946, 947, 948, 949, 950, 951, 952, 953, 954, 955, 956] rfl (by decide +kernel)
set_option maxRecDepth 100000 in
theorem gL_law_X4_write : GoodIn wsL_law (wsV RL 127 RX4 yX4_write wsX4_write) := goodIn_app (goodIn_of _ (by decide +kernel)) ggL_law_X4_write
set_option maxRecDepth 100000 in
theorem ggL_law_X3_copy : GoodIn wsL_law wsX3_copy := goodIn_r _ [825, 27, 826, 801, 827, 442, 443, 444, 775, 776, 2, 777, 95, 96, 97, 98, 28, 99, 802, 803, 804, 31, 805, 59, 828, 829, 830, 831, 60, 929, 930, 931, 932, 933, 934, 935, 936, 937, 969, 970, 971] rfl (by decide +kernel)
set_option maxRecDepth 100000 in
theorem gL_law_X3_copy : GoodIn wsL_law (wsV RL 128 RX3 yX3_copy wsX3_copy) := goodIn_app (goodIn_of _ (by decide +kernel)) ggL_law_X3_copy
set_option maxRecDepth 100000 in
theorem ggL_law_X4_copy : GoodIn wsL_law wsX4_copy := goodIn_r _ [835, 121, 74, 818, 238, 75, 77, 76, 793, 794, 5, 795, 796, 126, 127, 128, 129, 130, 131, 132, 71, 938, 939, 940, 941, 942, 943, 944, 945, 946, 947, 948, 949, 950, 951, 952, 953, 954, 955, 956] rfl (by decide +kernel)
set_option maxRecDepth 100000 in
theorem gL_law_X4_copy : GoodIn wsL_law (wsV RL 132 RX4 yX4_copy wsX4_copy) := goodIn_app (goodIn_of _ (by decide +kernel)) ggL_law_X4_copy
set_option maxRecDepth 100000 in
theorem ggL_law_X3_lays : GoodIn wsL_law wsX3_lays := goodIn_r _ [839, 27, 774, 801, 840, 16, 90, 775, 776, 2, 777, 95, 96, 97, 98, 28, 99, 802, 803, 804, 31, 805, 59, 929, 930, 931, 932, 933, 934, 935, 936, 937, 969, 970, 971, 957, 958, 959, 960, 961, 962] rfl (by decide +kernel)
set_option maxRecDepth 100000 in
theorem gL_law_X3_lays : GoodIn wsL_law (wsV RL 133 RX3 yX3_lays wsX3_lays) := goodIn_app (goodIn_of _ (by decide +kernel)) ggL_law_X3_lays
set_option maxRecDepth 100000 in
theorem ggL_law_X4_lays : GoodIn wsL_law wsX4_lays := goodIn_r _ [844, 75, 76, 226, 67, 814, 815, 816, 5, 817, 121, 74, 818, 793, 794, 795, 796, 126, 127, 128, 129, 130, 131, 132, 71, 82, 83, 84, 137, 138, 139, 140, 938, 939, 940, 941, 942, 943, 944, 945, 946, 947, 948, 949, 950, 951, 952, 953, 954, 955, 956] rfl (by decide +kernel)
set_option maxRecDepth 100000 in
theorem gL_law_X4_lays : GoodIn wsL_law (wsV RL 136 RX4 yX4_lays wsX4_lays) := goodIn_app (goodIn_of _ (by decide +kernel)) ggL_law_X4_lays
set_option maxRecDepth 100000 in
theorem ggL_law_X3_book : GoodIn wsL_law wsX3_book := goodIn_r _ [848, 27, 774, 18, 91, 775, 776, 2, 777, 95, 96, 97, 98, 28, 99, 802, 803, 804, 31, 805, 59, 92, 93, 94, 433, 434, 435, 436, 16, 437, 438, 439, 15, 440, 36, 37, 38, 441, 442, 443, 444, 39, 40, 41, 806, 807, 808, 809, 62, 308, 309, 310, 311, 312, 313, 314, 315, 316, 317, 106, 318, 319, 320, 321, 322, 323, 250, 251, 252, 324, 113, 114, 115, 325, 101, 102, 103, 104, 105, 107, 326, 327, 328, 329, 330, 173, 174, 175, 331, 274, 275, 276, 332, 109, 110, 111, 929, 930, 931, 932, 933, 934, 935, 936, 937, 969, 970, 971, 957, 958, 959, 960, 961, 962] rfl (by decide +kernel)
set_option maxRecDepth 100000 in
theorem gL_law_X3_book : GoodIn wsL_law (wsV RL 137 RX3 yX3_book wsX3_book) := goodIn_app (goodIn_of _ (by decide +kernel)) ggL_law_X3_book
set_option maxRecDepth 100000 in
theorem ggL_law_X4_book : GoodIn wsL_law wsX4_book := goodIn_r _ [852, 121, 75, 76, 74, 814, 815, 816, 5, 817, 818, 793, 794, 795, 796, 126, 127, 128, 129, 130, 131, 132, 71, 122, 123, 124, 125, 450, 451, 452, 453, 70, 67, 149, 150, 151, 152, 153, 154, 155, 156, 157, 158, 159, 160, 137, 138, 139, 140, 82, 83, 84, 819, 820, 821, 348, 349, 350, 351, 72, 352, 353, 354, 355, 145, 146, 147, 148, 133, 134, 135, 136, 356, 357, 358, 359, 265, 266, 267, 268, 141, 142, 143, 144, 360, 361, 362, 363, 454, 455, 456, 457, 938, 939, 940, 941, 942, 943, 944, 945, 946, 947, 948, 949, 950, 951, 952, 953, 954, 955, 956] rfl (by decide +kernel)
set_option maxRecDepth 100000 in
theorem gL_law_X4_book : GoodIn wsL_law (wsV RL 140 RX4 yX4_book wsX4_book) := goodIn_app (goodIn_of _ (by decide +kernel)) ggL_law_X4_book
set_option maxRecDepth 100000 in
theorem ggL_law_X3_read : GoodIn wsL_law wsX3_read := goodIn_r _ [856, 27, 18, 89, 775, 776, 2, 777, 95, 96, 97, 98, 28, 99, 802, 803, 804, 31, 805, 59, 92, 93, 94, 433, 434, 435, 436, 16, 437, 438, 439, 15, 440, 36, 37, 38, 441, 442, 443, 444, 39, 40, 41, 857, 858, 859, 860, 774, 801, 91, 308, 309, 310, 311, 312, 313, 314, 315, 316, 317, 106, 318, 319, 320, 321, 322, 323, 250, 251, 252, 324, 113, 114, 115, 325, 101, 102, 103, 104, 105, 107, 326, 327, 328, 329, 330, 173, 174, 175, 331, 274, 275, 276, 332, 109, 110, 111, 929, 930, 931, 932, 933, 934, 935, 936, 937, 957, 958, 959, 960, 961, 962, 969, 970, 971] rfl (by decide +kernel)
set_option maxRecDepth 100000 in
theorem gL_law_X3_read : GoodIn wsL_law (wsV RL 141 RX3 yX3_read wsX3_read) := goodIn_app (goodIn_of _ (by decide +kernel)) ggL_law_X3_read
set_option maxRecDepth 100000 in
theorem ggL_law_X4_read : GoodIn wsL_law wsX4_read := goodIn_r _ [864, 121, 67, 814, 815, 816, 5, 817, 74, 818, 793, 794, 795, 796, 126, 127, 128, 129, 130, 131, 132, 71, 122, 123, 124, 125, 450, 451, 452, 453, 70, 82, 83, 84, 865, 866, 867, 868, 75, 76, 149, 150, 151, 152, 153, 154, 155, 156, 157, 158, 159, 160, 137, 138, 139, 140, 348, 349, 350, 351, 72, 352, 353, 354, 355, 145, 146, 147, 148, 133, 134, 135, 136, 356, 357, 358, 359, 265, 266, 267, 268, 141, 142, 143, 144, 360, 361, 362, 363, 454, 455, 456, 457, 938, 939, 940, 941, 942, 943, 944, 945, 946, 947, 948, 949, 950, 951, 952, 953, 954, 955, 956] rfl (by decide +kernel)
set_option maxRecDepth 100000 in
theorem gL_law_X4_read : GoodIn wsL_law (wsV RL 144 RX4 yX4_read wsX4_read) := goodIn_app (goodIn_of _ (by decide +kernel)) ggL_law_X4_read
set_option maxRecDepth 100000 in
theorem ggL_law_X3_image : GoodIn wsL_law wsX3_image := goodIn_r _ [872, 17, 16, 29, 437, 438, 439, 15, 440, 36, 37, 38, 441, 442, 443, 444, 39, 40, 41, 929, 930, 931, 932, 933, 934, 935, 936, 937, 957, 958, 959, 960, 961, 962] rfl (by decide +kernel)
set_option maxRecDepth 100000 in
theorem gL_law_X3_image : GoodIn wsL_law (wsV RL 145 RX3 yX3_image wsX3_image) := goodIn_app (goodIn_of _ (by decide +kernel)) ggL_law_X3_image
set_option maxRecDepth 100000 in
theorem ggL_law_X4_image : GoodIn wsL_law wsX4_image := goodIn_r _ [876, 68, 67, 877, 938, 939, 940, 941, 942, 943, 944, 945, 946, 947, 948, 949, 950, 951, 952, 953, 954, 955, 956] rfl (by decide +kernel)
set_option maxRecDepth 100000 in
theorem gL_law_X4_image : GoodIn wsL_law (wsV RL 148 RX4 yX4_image wsX4_image) := goodIn_app (goodIn_of _ (by decide +kernel)) ggL_law_X4_image
set_option maxRecDepth 100000 in
theorem ggL_law_X3_undo : GoodIn wsL_law wsX3_undo := goodIn_r _ [881, 29, 16, 17, 307, 95, 96, 97, 2, 98, 28, 99, 437, 438, 439, 15, 440, 36, 37, 38, 441, 442, 443, 444, 39, 40, 41, 929, 930, 931, 932, 933, 934, 935, 936, 937, 957, 958, 959, 960, 961, 962] rfl (by decide +kernel)
set_option maxRecDepth 100000 in
theorem gL_law_X3_undo : GoodIn wsL_law (wsV RL 149 RX3 yX3_undo wsX3_undo) := goodIn_app (goodIn_of _ (by decide +kernel)) ggL_law_X3_undo
set_option maxRecDepth 100000 in
theorem ggL_law_X4_undo : GoodIn wsL_law wsX4_undo := goodIn_r _ [885, 877, 180, 67, 68, 129, 130, 131, 5, 132, 71, 121, 938, 939, 940, 941, 942, 943, 944, 945, 946, 947, 948, 949, 950, 951, 952, 953, 954, 955, 956] rfl (by decide +kernel)
set_option maxRecDepth 100000 in
theorem gL_law_X4_undo : GoodIn wsL_law (wsV RL 152 RX4 yX4_undo wsX4_undo) := goodIn_app (goodIn_of _ (by decide +kernel)) ggL_law_X4_undo
set_option maxRecDepth 100000 in
theorem ggL_law_X3_tear : GoodIn wsL_law wsX3_tear := goodIn_r _ [889, 29, 929, 930, 931, 932, 933, 934, 935, 936, 937] rfl (by decide +kernel)
set_option maxRecDepth 100000 in
theorem gL_law_X3_tear : GoodIn wsL_law (wsV RL 153 RX3 yX3_tear wsX3_tear) := goodIn_app (goodIn_of _ (by decide +kernel)) ggL_law_X3_tear
set_option maxRecDepth 100000 in
theorem ggL_law_X4_tear : GoodIn wsL_law wsX4_tear := goodIn_r _ [893, 877, 938, 939, 940, 941, 942, 943, 944, 945, 946, 947, 948, 949, 950, 951, 952, 953, 954, 955, 956] rfl (by decide +kernel)
set_option maxRecDepth 100000 in
theorem gL_law_X4_tear : GoodIn wsL_law (wsV RL 156 RX4 yX4_tear wsX4_tear) := goodIn_app (goodIn_of _ (by decide +kernel)) ggL_law_X4_tear
set_option maxRecDepth 100000 in
theorem ggL_law_X3_count : GoodIn wsL_law wsX3_count := goodIn_r _ [897, 16, 25, 576, 407, 898, 899, 900, 15, 901, 38, 902, 381, 382, 383, 384, 385, 386, 903, 904, 905, 906, 40, 95, 96, 97, 2, 98, 28, 99, 929, 930, 931, 932, 933, 934, 935, 936, 937, 963, 964, 965, 966, 967, 968, 957, 958, 959, 960, 961, 962] rfl (by decide +kernel)
set_option maxRecDepth 100000 in
theorem gL_law_X3_count : GoodIn wsL_law (wsV RL 157 RX3 yX3_count wsX3_count) := goodIn_app (goodIn_of _ (by decide +kernel)) ggL_law_X3_count
set_option maxRecDepth 100000 in
theorem ggL_law_X4_count : GoodIn wsL_law wsX4_count := goodIn_r _ [910, 586, 67, 121, 911, 912, 913, 5, 914, 137, 138, 139, 140, 82, 83, 84, 422, 423, 424, 915, 916, 917, 918, 149, 150, 151, 152, 153, 154, 155, 156, 157, 158, 159, 160, 129, 130, 131, 132, 71, 938, 939, 940, 941, 942, 943, 944, 945, 946, 947, 948, 949, 950, 951, 952, 953, 954, 955, 956] rfl (by decide +kernel)
set_option maxRecDepth 100000 in
theorem gL_law_X4_count : GoodIn wsL_law (wsV RL 160 RX4 yX4_count wsX4_count) := goodIn_app (goodIn_of _ (by decide +kernel)) ggL_law_X4_count
set_option maxRecDepth 100000 in
theorem ggL_law_X3_status : GoodIn wsL_law wsX3_status := goodIn_r _ [922, 28, 95, 96, 97, 2, 98, 99, 929, 930, 931, 932, 933, 934, 935, 936, 937] rfl (by decide +kernel)
set_option maxRecDepth 100000 in
theorem gL_law_X3_status : GoodIn wsL_law (wsV RL 161 RX3 yX3_status wsX3_status) := goodIn_app (goodIn_of _ (by decide +kernel)) ggL_law_X3_status
set_option maxRecDepth 100000 in
theorem ggL_law_X4_status : GoodIn wsL_law wsX4_status := goodIn_r _ [926, 927, 928, 121, 71, 126, 127, 5, 128, 129, 130, 131, 132, 938, 939, 940, 941, 942, 943, 944, 945, 946, 947, 948, 949, 950, 951, 952, 953, 954, 955, 956] rfl (by decide +kernel)
set_option maxRecDepth 100000 in
theorem gL_law_X4_status : GoodIn wsL_law (wsV RL 164 RX4 yX4_status wsX4_status) := goodIn_app (goodIn_of _ (by decide +kernel)) ggL_law_X4_status
theorem dL_law_0 : decode cL_law 0 = .ok (.new 7, 3) := by decide +kernel
theorem dL_law_3 : decode cL_law 3 = .ok (.dup, 1) := by decide +kernel
theorem dL_law_4 : decode cL_law 4 = .ok (.invokespecial 9, 3) := by decide +kernel
theorem dL_law_7 : decode cL_law 7 = .ok (.astore_n 1, 1) := by decide +kernel
theorem dL_law_8 : decode cL_law 8 = .ok (.new 10, 3) := by decide +kernel
theorem dL_law_11 : decode cL_law 11 = .ok (.dup, 1) := by decide +kernel
theorem dL_law_12 : decode cL_law 12 = .ok (.invokespecial 12, 3) := by decide +kernel
theorem dL_law_15 : decode cL_law 15 = .ok (.astore_n 2, 1) := by decide +kernel
theorem dL_law_16 : decode cL_law 16 = .ok (.iconst 0, 1) := by decide +kernel
theorem dL_law_17 : decode cL_law 17 = .ok (.istore_n 3, 1) := by decide +kernel
theorem dL_law_18 : decode cL_law 18 = .ok (.iload_n 3, 1) := by decide +kernel
theorem dL_law_19 : decode cL_law 19 = .ok (.aload_n 0, 1) := by decide +kernel
theorem dL_law_20 : decode cL_law 20 = .ok (.arraylength, 1) := by decide +kernel
theorem dL_law_21 : decode cL_law 21 = .ok (.bipush 6, 2) := by decide +kernel
theorem dL_law_23 : decode cL_law 23 = .ok (.isub, 1) := by decide +kernel
theorem dL_law_24 : decode cL_law 24 = .ok (.if_icmp .gt 1203, 3) := by decide +kernel
theorem dL_law_27 : decode cL_law 27 = .ok (.aload_n 0, 1) := by decide +kernel
theorem dL_law_28 : decode cL_law 28 = .ok (.iload_n 3, 1) := by decide +kernel
theorem dL_law_29 : decode cL_law 29 = .ok (.iaload, 1) := by decide +kernel
theorem dL_law_30 : decode cL_law 30 = .ok (.bipush 63, 2) := by decide +kernel
theorem dL_law_32 : decode cL_law 32 = .ok (.iand, 1) := by decide +kernel
theorem dL_law_33 : decode cL_law 33 = .ok (.tableswitch 1188 0 35 #[159, 192, 225, 258, 291, 324, 357, 390, 423, 446, 469, 482, 505, 538, 571, 594, 617, 640, 663, 696, 719, 742, 765, 798, 811, 824, 867, 941, 1004, 1027, 1060, 1103, 1116, 1129, 1142, 1165], 159) := by decide +kernel
theorem dL_law_192 : decode cL_law 192 = .ok (.aload_n 1, 1) := by decide +kernel
theorem dL_law_193 : decode cL_law 193 = .ok (.aload_n 0, 1) := by decide +kernel
theorem dL_law_194 : decode cL_law 194 = .ok (.iload_n 3, 1) := by decide +kernel
theorem dL_law_195 : decode cL_law 195 = .ok (.iconst 1, 1) := by decide +kernel
theorem dL_law_196 : decode cL_law 196 = .ok (.iadd, 1) := by decide +kernel
theorem dL_law_197 : decode cL_law 197 = .ok (.iaload, 1) := by decide +kernel
theorem dL_law_198 : decode cL_law 198 = .ok (.aload_n 0, 1) := by decide +kernel
theorem dL_law_199 : decode cL_law 199 = .ok (.iload_n 3, 1) := by decide +kernel
theorem dL_law_200 : decode cL_law 200 = .ok (.iconst 2, 1) := by decide +kernel
theorem dL_law_201 : decode cL_law 201 = .ok (.iadd, 1) := by decide +kernel
theorem dL_law_202 : decode cL_law 202 = .ok (.iaload, 1) := by decide +kernel
theorem dL_law_203 : decode cL_law 203 = .ok (.invokevirtual 13, 3) := by decide +kernel
theorem dL_law_206 : decode cL_law 206 = .ok (.aload_n 2, 1) := by decide +kernel
theorem dL_law_207 : decode cL_law 207 = .ok (.aload_n 0, 1) := by decide +kernel
theorem dL_law_208 : decode cL_law 208 = .ok (.iload_n 3, 1) := by decide +kernel
theorem dL_law_209 : decode cL_law 209 = .ok (.iconst 1, 1) := by decide +kernel
theorem dL_law_210 : decode cL_law 210 = .ok (.iadd, 1) := by decide +kernel
theorem dL_law_211 : decode cL_law 211 = .ok (.iaload, 1) := by decide +kernel
theorem dL_law_212 : decode cL_law 212 = .ok (.aload_n 0, 1) := by decide +kernel
theorem dL_law_213 : decode cL_law 213 = .ok (.iload_n 3, 1) := by decide +kernel
theorem dL_law_214 : decode cL_law 214 = .ok (.iconst 2, 1) := by decide +kernel
theorem dL_law_215 : decode cL_law 215 = .ok (.iadd, 1) := by decide +kernel
theorem dL_law_216 : decode cL_law 216 = .ok (.iaload, 1) := by decide +kernel
theorem dL_law_217 : decode cL_law 217 = .ok (.invokevirtual 17, 3) := by decide +kernel
theorem dL_law_220 : decode cL_law 220 = .ok (.if_icmp .eq 1001, 3) := by decide +kernel
theorem dL_law_223 : decode cL_law 223 = .ok (.iconst 0, 1) := by decide +kernel
theorem dL_law_224 : decode cL_law 224 = .ok (.ireturn, 1) := by decide +kernel
theorem dL_law_225 : decode cL_law 225 = .ok (.aload_n 1, 1) := by decide +kernel
theorem dL_law_226 : decode cL_law 226 = .ok (.aload_n 0, 1) := by decide +kernel
theorem dL_law_227 : decode cL_law 227 = .ok (.iload_n 3, 1) := by decide +kernel
theorem dL_law_228 : decode cL_law 228 = .ok (.iconst 1, 1) := by decide +kernel
theorem dL_law_229 : decode cL_law 229 = .ok (.iadd, 1) := by decide +kernel
theorem dL_law_230 : decode cL_law 230 = .ok (.iaload, 1) := by decide +kernel
theorem dL_law_231 : decode cL_law 231 = .ok (.aload_n 0, 1) := by decide +kernel
theorem dL_law_232 : decode cL_law 232 = .ok (.iload_n 3, 1) := by decide +kernel
theorem dL_law_233 : decode cL_law 233 = .ok (.iconst 2, 1) := by decide +kernel
theorem dL_law_234 : decode cL_law 234 = .ok (.iadd, 1) := by decide +kernel
theorem dL_law_235 : decode cL_law 235 = .ok (.iaload, 1) := by decide +kernel
theorem dL_law_236 : decode cL_law 236 = .ok (.invokevirtual 18, 3) := by decide +kernel
theorem dL_law_239 : decode cL_law 239 = .ok (.aload_n 2, 1) := by decide +kernel
theorem dL_law_240 : decode cL_law 240 = .ok (.aload_n 0, 1) := by decide +kernel
theorem dL_law_241 : decode cL_law 241 = .ok (.iload_n 3, 1) := by decide +kernel
theorem dL_law_242 : decode cL_law 242 = .ok (.iconst 1, 1) := by decide +kernel
theorem dL_law_243 : decode cL_law 243 = .ok (.iadd, 1) := by decide +kernel
theorem dL_law_244 : decode cL_law 244 = .ok (.iaload, 1) := by decide +kernel
theorem dL_law_245 : decode cL_law 245 = .ok (.aload_n 0, 1) := by decide +kernel
theorem dL_law_246 : decode cL_law 246 = .ok (.iload_n 3, 1) := by decide +kernel
theorem dL_law_247 : decode cL_law 247 = .ok (.iconst 2, 1) := by decide +kernel
theorem dL_law_248 : decode cL_law 248 = .ok (.iadd, 1) := by decide +kernel
theorem dL_law_249 : decode cL_law 249 = .ok (.iaload, 1) := by decide +kernel
theorem dL_law_250 : decode cL_law 250 = .ok (.invokevirtual 21, 3) := by decide +kernel
theorem dL_law_253 : decode cL_law 253 = .ok (.if_icmp .eq 968, 3) := by decide +kernel
theorem dL_law_256 : decode cL_law 256 = .ok (.iconst 0, 1) := by decide +kernel
theorem dL_law_257 : decode cL_law 257 = .ok (.ireturn, 1) := by decide +kernel
theorem dL_law_258 : decode cL_law 258 = .ok (.aload_n 1, 1) := by decide +kernel
theorem dL_law_259 : decode cL_law 259 = .ok (.aload_n 0, 1) := by decide +kernel
theorem dL_law_260 : decode cL_law 260 = .ok (.iload_n 3, 1) := by decide +kernel
theorem dL_law_261 : decode cL_law 261 = .ok (.iconst 1, 1) := by decide +kernel
theorem dL_law_262 : decode cL_law 262 = .ok (.iadd, 1) := by decide +kernel
theorem dL_law_263 : decode cL_law 263 = .ok (.iaload, 1) := by decide +kernel
theorem dL_law_264 : decode cL_law 264 = .ok (.aload_n 0, 1) := by decide +kernel
theorem dL_law_265 : decode cL_law 265 = .ok (.iload_n 3, 1) := by decide +kernel
theorem dL_law_266 : decode cL_law 266 = .ok (.iconst 2, 1) := by decide +kernel
theorem dL_law_267 : decode cL_law 267 = .ok (.iadd, 1) := by decide +kernel
theorem dL_law_268 : decode cL_law 268 = .ok (.iaload, 1) := by decide +kernel
theorem dL_law_269 : decode cL_law 269 = .ok (.invokevirtual 22, 3) := by decide +kernel
theorem dL_law_272 : decode cL_law 272 = .ok (.aload_n 2, 1) := by decide +kernel
theorem dL_law_273 : decode cL_law 273 = .ok (.aload_n 0, 1) := by decide +kernel
theorem dL_law_274 : decode cL_law 274 = .ok (.iload_n 3, 1) := by decide +kernel
theorem dL_law_275 : decode cL_law 275 = .ok (.iconst 1, 1) := by decide +kernel
theorem dL_law_276 : decode cL_law 276 = .ok (.iadd, 1) := by decide +kernel
theorem dL_law_277 : decode cL_law 277 = .ok (.iaload, 1) := by decide +kernel
theorem dL_law_278 : decode cL_law 278 = .ok (.aload_n 0, 1) := by decide +kernel
theorem dL_law_279 : decode cL_law 279 = .ok (.iload_n 3, 1) := by decide +kernel
theorem dL_law_280 : decode cL_law 280 = .ok (.iconst 2, 1) := by decide +kernel
theorem dL_law_281 : decode cL_law 281 = .ok (.iadd, 1) := by decide +kernel
theorem dL_law_282 : decode cL_law 282 = .ok (.iaload, 1) := by decide +kernel
theorem dL_law_283 : decode cL_law 283 = .ok (.invokevirtual 25, 3) := by decide +kernel
theorem dL_law_286 : decode cL_law 286 = .ok (.if_icmp .eq 935, 3) := by decide +kernel
theorem dL_law_289 : decode cL_law 289 = .ok (.iconst 0, 1) := by decide +kernel
theorem dL_law_290 : decode cL_law 290 = .ok (.ireturn, 1) := by decide +kernel
theorem dL_law_291 : decode cL_law 291 = .ok (.aload_n 1, 1) := by decide +kernel
theorem dL_law_292 : decode cL_law 292 = .ok (.aload_n 0, 1) := by decide +kernel
theorem dL_law_293 : decode cL_law 293 = .ok (.iload_n 3, 1) := by decide +kernel
theorem dL_law_294 : decode cL_law 294 = .ok (.iconst 1, 1) := by decide +kernel
theorem dL_law_295 : decode cL_law 295 = .ok (.iadd, 1) := by decide +kernel
theorem dL_law_296 : decode cL_law 296 = .ok (.iaload, 1) := by decide +kernel
theorem dL_law_297 : decode cL_law 297 = .ok (.aload_n 0, 1) := by decide +kernel
theorem dL_law_298 : decode cL_law 298 = .ok (.iload_n 3, 1) := by decide +kernel
theorem dL_law_299 : decode cL_law 299 = .ok (.iconst 2, 1) := by decide +kernel
theorem dL_law_300 : decode cL_law 300 = .ok (.iadd, 1) := by decide +kernel
theorem dL_law_301 : decode cL_law 301 = .ok (.iaload, 1) := by decide +kernel
theorem dL_law_302 : decode cL_law 302 = .ok (.invokevirtual 26, 3) := by decide +kernel
theorem dL_law_305 : decode cL_law 305 = .ok (.aload_n 2, 1) := by decide +kernel
theorem dL_law_306 : decode cL_law 306 = .ok (.aload_n 0, 1) := by decide +kernel
theorem dL_law_307 : decode cL_law 307 = .ok (.iload_n 3, 1) := by decide +kernel
theorem dL_law_308 : decode cL_law 308 = .ok (.iconst 1, 1) := by decide +kernel
theorem dL_law_309 : decode cL_law 309 = .ok (.iadd, 1) := by decide +kernel
theorem dL_law_310 : decode cL_law 310 = .ok (.iaload, 1) := by decide +kernel
theorem dL_law_311 : decode cL_law 311 = .ok (.aload_n 0, 1) := by decide +kernel
theorem dL_law_312 : decode cL_law 312 = .ok (.iload_n 3, 1) := by decide +kernel
theorem dL_law_313 : decode cL_law 313 = .ok (.iconst 2, 1) := by decide +kernel
theorem dL_law_314 : decode cL_law 314 = .ok (.iadd, 1) := by decide +kernel
theorem dL_law_315 : decode cL_law 315 = .ok (.iaload, 1) := by decide +kernel
theorem dL_law_316 : decode cL_law 316 = .ok (.invokevirtual 29, 3) := by decide +kernel
theorem dL_law_319 : decode cL_law 319 = .ok (.if_icmp .eq 902, 3) := by decide +kernel
theorem dL_law_322 : decode cL_law 322 = .ok (.iconst 0, 1) := by decide +kernel
theorem dL_law_323 : decode cL_law 323 = .ok (.ireturn, 1) := by decide +kernel
theorem dL_law_324 : decode cL_law 324 = .ok (.aload_n 1, 1) := by decide +kernel
theorem dL_law_325 : decode cL_law 325 = .ok (.aload_n 0, 1) := by decide +kernel
theorem dL_law_326 : decode cL_law 326 = .ok (.iload_n 3, 1) := by decide +kernel
theorem dL_law_327 : decode cL_law 327 = .ok (.iconst 1, 1) := by decide +kernel
theorem dL_law_328 : decode cL_law 328 = .ok (.iadd, 1) := by decide +kernel
theorem dL_law_329 : decode cL_law 329 = .ok (.iaload, 1) := by decide +kernel
theorem dL_law_330 : decode cL_law 330 = .ok (.aload_n 0, 1) := by decide +kernel
theorem dL_law_331 : decode cL_law 331 = .ok (.iload_n 3, 1) := by decide +kernel
theorem dL_law_332 : decode cL_law 332 = .ok (.iconst 2, 1) := by decide +kernel
theorem dL_law_333 : decode cL_law 333 = .ok (.iadd, 1) := by decide +kernel
theorem dL_law_334 : decode cL_law 334 = .ok (.iaload, 1) := by decide +kernel
theorem dL_law_335 : decode cL_law 335 = .ok (.invokevirtual 30, 3) := by decide +kernel
theorem dL_law_338 : decode cL_law 338 = .ok (.aload_n 2, 1) := by decide +kernel
theorem dL_law_339 : decode cL_law 339 = .ok (.aload_n 0, 1) := by decide +kernel
theorem dL_law_340 : decode cL_law 340 = .ok (.iload_n 3, 1) := by decide +kernel
theorem dL_law_341 : decode cL_law 341 = .ok (.iconst 1, 1) := by decide +kernel
theorem dL_law_342 : decode cL_law 342 = .ok (.iadd, 1) := by decide +kernel
theorem dL_law_343 : decode cL_law 343 = .ok (.iaload, 1) := by decide +kernel
theorem dL_law_344 : decode cL_law 344 = .ok (.aload_n 0, 1) := by decide +kernel
theorem dL_law_345 : decode cL_law 345 = .ok (.iload_n 3, 1) := by decide +kernel
theorem dL_law_346 : decode cL_law 346 = .ok (.iconst 2, 1) := by decide +kernel
theorem dL_law_347 : decode cL_law 347 = .ok (.iadd, 1) := by decide +kernel
theorem dL_law_348 : decode cL_law 348 = .ok (.iaload, 1) := by decide +kernel
theorem dL_law_349 : decode cL_law 349 = .ok (.invokevirtual 33, 3) := by decide +kernel
theorem dL_law_352 : decode cL_law 352 = .ok (.if_icmp .eq 869, 3) := by decide +kernel
theorem dL_law_355 : decode cL_law 355 = .ok (.iconst 0, 1) := by decide +kernel
theorem dL_law_356 : decode cL_law 356 = .ok (.ireturn, 1) := by decide +kernel
theorem dL_law_357 : decode cL_law 357 = .ok (.aload_n 1, 1) := by decide +kernel
theorem dL_law_358 : decode cL_law 358 = .ok (.aload_n 0, 1) := by decide +kernel
theorem dL_law_359 : decode cL_law 359 = .ok (.iload_n 3, 1) := by decide +kernel
theorem dL_law_360 : decode cL_law 360 = .ok (.iconst 1, 1) := by decide +kernel
theorem dL_law_361 : decode cL_law 361 = .ok (.iadd, 1) := by decide +kernel
theorem dL_law_362 : decode cL_law 362 = .ok (.iaload, 1) := by decide +kernel
theorem dL_law_363 : decode cL_law 363 = .ok (.aload_n 0, 1) := by decide +kernel
theorem dL_law_364 : decode cL_law 364 = .ok (.iload_n 3, 1) := by decide +kernel
theorem dL_law_365 : decode cL_law 365 = .ok (.iconst 2, 1) := by decide +kernel
theorem dL_law_366 : decode cL_law 366 = .ok (.iadd, 1) := by decide +kernel
theorem dL_law_367 : decode cL_law 367 = .ok (.iaload, 1) := by decide +kernel
theorem dL_law_368 : decode cL_law 368 = .ok (.invokevirtual 34, 3) := by decide +kernel
theorem dL_law_371 : decode cL_law 371 = .ok (.aload_n 2, 1) := by decide +kernel
theorem dL_law_372 : decode cL_law 372 = .ok (.aload_n 0, 1) := by decide +kernel
theorem dL_law_373 : decode cL_law 373 = .ok (.iload_n 3, 1) := by decide +kernel
theorem dL_law_374 : decode cL_law 374 = .ok (.iconst 1, 1) := by decide +kernel
theorem dL_law_375 : decode cL_law 375 = .ok (.iadd, 1) := by decide +kernel
theorem dL_law_376 : decode cL_law 376 = .ok (.iaload, 1) := by decide +kernel
theorem dL_law_377 : decode cL_law 377 = .ok (.aload_n 0, 1) := by decide +kernel
theorem dL_law_378 : decode cL_law 378 = .ok (.iload_n 3, 1) := by decide +kernel
theorem dL_law_379 : decode cL_law 379 = .ok (.iconst 2, 1) := by decide +kernel
theorem dL_law_380 : decode cL_law 380 = .ok (.iadd, 1) := by decide +kernel
theorem dL_law_381 : decode cL_law 381 = .ok (.iaload, 1) := by decide +kernel
theorem dL_law_382 : decode cL_law 382 = .ok (.invokevirtual 37, 3) := by decide +kernel
theorem dL_law_385 : decode cL_law 385 = .ok (.if_icmp .eq 836, 3) := by decide +kernel
theorem dL_law_388 : decode cL_law 388 = .ok (.iconst 0, 1) := by decide +kernel
theorem dL_law_389 : decode cL_law 389 = .ok (.ireturn, 1) := by decide +kernel
theorem dL_law_390 : decode cL_law 390 = .ok (.aload_n 1, 1) := by decide +kernel
theorem dL_law_391 : decode cL_law 391 = .ok (.aload_n 0, 1) := by decide +kernel
theorem dL_law_392 : decode cL_law 392 = .ok (.iload_n 3, 1) := by decide +kernel
theorem dL_law_393 : decode cL_law 393 = .ok (.iconst 1, 1) := by decide +kernel
theorem dL_law_394 : decode cL_law 394 = .ok (.iadd, 1) := by decide +kernel
theorem dL_law_395 : decode cL_law 395 = .ok (.iaload, 1) := by decide +kernel
theorem dL_law_396 : decode cL_law 396 = .ok (.aload_n 0, 1) := by decide +kernel
theorem dL_law_397 : decode cL_law 397 = .ok (.iload_n 3, 1) := by decide +kernel
theorem dL_law_398 : decode cL_law 398 = .ok (.iconst 2, 1) := by decide +kernel
theorem dL_law_399 : decode cL_law 399 = .ok (.iadd, 1) := by decide +kernel
theorem dL_law_400 : decode cL_law 400 = .ok (.iaload, 1) := by decide +kernel
theorem dL_law_401 : decode cL_law 401 = .ok (.invokevirtual 38, 3) := by decide +kernel
theorem dL_law_404 : decode cL_law 404 = .ok (.aload_n 2, 1) := by decide +kernel
theorem dL_law_405 : decode cL_law 405 = .ok (.aload_n 0, 1) := by decide +kernel
theorem dL_law_406 : decode cL_law 406 = .ok (.iload_n 3, 1) := by decide +kernel
theorem dL_law_407 : decode cL_law 407 = .ok (.iconst 1, 1) := by decide +kernel
theorem dL_law_408 : decode cL_law 408 = .ok (.iadd, 1) := by decide +kernel
theorem dL_law_409 : decode cL_law 409 = .ok (.iaload, 1) := by decide +kernel
theorem dL_law_410 : decode cL_law 410 = .ok (.aload_n 0, 1) := by decide +kernel
theorem dL_law_411 : decode cL_law 411 = .ok (.iload_n 3, 1) := by decide +kernel
theorem dL_law_412 : decode cL_law 412 = .ok (.iconst 2, 1) := by decide +kernel
theorem dL_law_413 : decode cL_law 413 = .ok (.iadd, 1) := by decide +kernel
theorem dL_law_414 : decode cL_law 414 = .ok (.iaload, 1) := by decide +kernel
theorem dL_law_415 : decode cL_law 415 = .ok (.invokevirtual 41, 3) := by decide +kernel
theorem dL_law_418 : decode cL_law 418 = .ok (.if_icmp .eq 803, 3) := by decide +kernel
theorem dL_law_421 : decode cL_law 421 = .ok (.iconst 0, 1) := by decide +kernel
theorem dL_law_422 : decode cL_law 422 = .ok (.ireturn, 1) := by decide +kernel
theorem dL_law_423 : decode cL_law 423 = .ok (.aload_n 1, 1) := by decide +kernel
theorem dL_law_424 : decode cL_law 424 = .ok (.aload_n 0, 1) := by decide +kernel
theorem dL_law_425 : decode cL_law 425 = .ok (.iload_n 3, 1) := by decide +kernel
theorem dL_law_426 : decode cL_law 426 = .ok (.iconst 1, 1) := by decide +kernel
theorem dL_law_427 : decode cL_law 427 = .ok (.iadd, 1) := by decide +kernel
theorem dL_law_428 : decode cL_law 428 = .ok (.iaload, 1) := by decide +kernel
theorem dL_law_429 : decode cL_law 429 = .ok (.aload_n 0, 1) := by decide +kernel
theorem dL_law_430 : decode cL_law 430 = .ok (.iload_n 3, 1) := by decide +kernel
theorem dL_law_431 : decode cL_law 431 = .ok (.iconst 2, 1) := by decide +kernel
theorem dL_law_432 : decode cL_law 432 = .ok (.iadd, 1) := by decide +kernel
theorem dL_law_433 : decode cL_law 433 = .ok (.iaload, 1) := by decide +kernel
theorem dL_law_434 : decode cL_law 434 = .ok (.invokevirtual 42, 3) := by decide +kernel
theorem dL_law_437 : decode cL_law 437 = .ok (.aload_n 2, 1) := by decide +kernel
theorem dL_law_438 : decode cL_law 438 = .ok (.aload_n 0, 1) := by decide +kernel
theorem dL_law_439 : decode cL_law 439 = .ok (.iload_n 3, 1) := by decide +kernel
theorem dL_law_440 : decode cL_law 440 = .ok (.iconst 1, 1) := by decide +kernel
theorem dL_law_441 : decode cL_law 441 = .ok (.iadd, 1) := by decide +kernel
theorem dL_law_442 : decode cL_law 442 = .ok (.iaload, 1) := by decide +kernel
theorem dL_law_443 : decode cL_law 443 = .ok (.aload_n 0, 1) := by decide +kernel
theorem dL_law_444 : decode cL_law 444 = .ok (.iload_n 3, 1) := by decide +kernel
theorem dL_law_445 : decode cL_law 445 = .ok (.iconst 2, 1) := by decide +kernel
theorem dL_law_446 : decode cL_law 446 = .ok (.iadd, 1) := by decide +kernel
theorem dL_law_447 : decode cL_law 447 = .ok (.iaload, 1) := by decide +kernel
theorem dL_law_448 : decode cL_law 448 = .ok (.invokevirtual 45, 3) := by decide +kernel
theorem dL_law_451 : decode cL_law 451 = .ok (.if_icmp .eq 770, 3) := by decide +kernel
theorem dL_law_454 : decode cL_law 454 = .ok (.iconst 0, 1) := by decide +kernel
theorem dL_law_455 : decode cL_law 455 = .ok (.ireturn, 1) := by decide +kernel
theorem dL_law_456 : decode cL_law 456 = .ok (.aload_n 1, 1) := by decide +kernel
theorem dL_law_457 : decode cL_law 457 = .ok (.aload_n 0, 1) := by decide +kernel
theorem dL_law_458 : decode cL_law 458 = .ok (.iload_n 3, 1) := by decide +kernel
theorem dL_law_459 : decode cL_law 459 = .ok (.iconst 1, 1) := by decide +kernel
theorem dL_law_460 : decode cL_law 460 = .ok (.iadd, 1) := by decide +kernel
theorem dL_law_461 : decode cL_law 461 = .ok (.iaload, 1) := by decide +kernel
theorem dL_law_462 : decode cL_law 462 = .ok (.invokevirtual 46, 3) := by decide +kernel
theorem dL_law_465 : decode cL_law 465 = .ok (.aload_n 2, 1) := by decide +kernel
theorem dL_law_466 : decode cL_law 466 = .ok (.aload_n 0, 1) := by decide +kernel
theorem dL_law_467 : decode cL_law 467 = .ok (.iload_n 3, 1) := by decide +kernel
theorem dL_law_468 : decode cL_law 468 = .ok (.iconst 1, 1) := by decide +kernel
theorem dL_law_469 : decode cL_law 469 = .ok (.iadd, 1) := by decide +kernel
theorem dL_law_470 : decode cL_law 470 = .ok (.iaload, 1) := by decide +kernel
theorem dL_law_471 : decode cL_law 471 = .ok (.invokevirtual 50, 3) := by decide +kernel
theorem dL_law_474 : decode cL_law 474 = .ok (.if_icmp .eq 747, 3) := by decide +kernel
theorem dL_law_477 : decode cL_law 477 = .ok (.iconst 0, 1) := by decide +kernel
theorem dL_law_478 : decode cL_law 478 = .ok (.ireturn, 1) := by decide +kernel
theorem dL_law_479 : decode cL_law 479 = .ok (.aload_n 1, 1) := by decide +kernel
theorem dL_law_480 : decode cL_law 480 = .ok (.aload_n 0, 1) := by decide +kernel
theorem dL_law_481 : decode cL_law 481 = .ok (.iload_n 3, 1) := by decide +kernel
theorem dL_law_482 : decode cL_law 482 = .ok (.iconst 1, 1) := by decide +kernel
theorem dL_law_483 : decode cL_law 483 = .ok (.iadd, 1) := by decide +kernel
theorem dL_law_484 : decode cL_law 484 = .ok (.iaload, 1) := by decide +kernel
theorem dL_law_485 : decode cL_law 485 = .ok (.invokevirtual 51, 3) := by decide +kernel
theorem dL_law_488 : decode cL_law 488 = .ok (.aload_n 2, 1) := by decide +kernel
theorem dL_law_489 : decode cL_law 489 = .ok (.aload_n 0, 1) := by decide +kernel
theorem dL_law_490 : decode cL_law 490 = .ok (.iload_n 3, 1) := by decide +kernel
theorem dL_law_491 : decode cL_law 491 = .ok (.iconst 1, 1) := by decide +kernel
theorem dL_law_492 : decode cL_law 492 = .ok (.iadd, 1) := by decide +kernel
theorem dL_law_493 : decode cL_law 493 = .ok (.iaload, 1) := by decide +kernel
theorem dL_law_494 : decode cL_law 494 = .ok (.invokevirtual 54, 3) := by decide +kernel
theorem dL_law_497 : decode cL_law 497 = .ok (.if_icmp .eq 724, 3) := by decide +kernel
theorem dL_law_500 : decode cL_law 500 = .ok (.iconst 0, 1) := by decide +kernel
theorem dL_law_501 : decode cL_law 501 = .ok (.ireturn, 1) := by decide +kernel
theorem dL_law_502 : decode cL_law 502 = .ok (.aload_n 1, 1) := by decide +kernel
theorem dL_law_503 : decode cL_law 503 = .ok (.invokevirtual 55, 3) := by decide +kernel
theorem dL_law_506 : decode cL_law 506 = .ok (.aload_n 2, 1) := by decide +kernel
theorem dL_law_507 : decode cL_law 507 = .ok (.invokevirtual 59, 3) := by decide +kernel
theorem dL_law_510 : decode cL_law 510 = .ok (.if_icmp .eq 711, 3) := by decide +kernel
theorem dL_law_513 : decode cL_law 513 = .ok (.iconst 0, 1) := by decide +kernel
theorem dL_law_514 : decode cL_law 514 = .ok (.ireturn, 1) := by decide +kernel
theorem dL_law_515 : decode cL_law 515 = .ok (.aload_n 1, 1) := by decide +kernel
theorem dL_law_516 : decode cL_law 516 = .ok (.aload_n 0, 1) := by decide +kernel
theorem dL_law_517 : decode cL_law 517 = .ok (.iload_n 3, 1) := by decide +kernel
theorem dL_law_518 : decode cL_law 518 = .ok (.iconst 1, 1) := by decide +kernel
theorem dL_law_519 : decode cL_law 519 = .ok (.iadd, 1) := by decide +kernel
theorem dL_law_520 : decode cL_law 520 = .ok (.iaload, 1) := by decide +kernel
theorem dL_law_521 : decode cL_law 521 = .ok (.invokevirtual 60, 3) := by decide +kernel
theorem dL_law_524 : decode cL_law 524 = .ok (.aload_n 2, 1) := by decide +kernel
theorem dL_law_525 : decode cL_law 525 = .ok (.aload_n 0, 1) := by decide +kernel
theorem dL_law_526 : decode cL_law 526 = .ok (.iload_n 3, 1) := by decide +kernel
theorem dL_law_527 : decode cL_law 527 = .ok (.iconst 1, 1) := by decide +kernel
theorem dL_law_528 : decode cL_law 528 = .ok (.iadd, 1) := by decide +kernel
theorem dL_law_529 : decode cL_law 529 = .ok (.iaload, 1) := by decide +kernel
theorem dL_law_530 : decode cL_law 530 = .ok (.invokevirtual 63, 3) := by decide +kernel
theorem dL_law_533 : decode cL_law 533 = .ok (.if_icmp .eq 688, 3) := by decide +kernel
theorem dL_law_536 : decode cL_law 536 = .ok (.iconst 0, 1) := by decide +kernel
theorem dL_law_537 : decode cL_law 537 = .ok (.ireturn, 1) := by decide +kernel
theorem dL_law_538 : decode cL_law 538 = .ok (.aload_n 1, 1) := by decide +kernel
theorem dL_law_539 : decode cL_law 539 = .ok (.aload_n 0, 1) := by decide +kernel
theorem dL_law_540 : decode cL_law 540 = .ok (.iload_n 3, 1) := by decide +kernel
theorem dL_law_541 : decode cL_law 541 = .ok (.iconst 1, 1) := by decide +kernel
theorem dL_law_542 : decode cL_law 542 = .ok (.iadd, 1) := by decide +kernel
theorem dL_law_543 : decode cL_law 543 = .ok (.iaload, 1) := by decide +kernel
theorem dL_law_544 : decode cL_law 544 = .ok (.aload_n 0, 1) := by decide +kernel
theorem dL_law_545 : decode cL_law 545 = .ok (.iload_n 3, 1) := by decide +kernel
theorem dL_law_546 : decode cL_law 546 = .ok (.iconst 2, 1) := by decide +kernel
theorem dL_law_547 : decode cL_law 547 = .ok (.iadd, 1) := by decide +kernel
theorem dL_law_548 : decode cL_law 548 = .ok (.iaload, 1) := by decide +kernel
theorem dL_law_549 : decode cL_law 549 = .ok (.invokevirtual 64, 3) := by decide +kernel
theorem dL_law_552 : decode cL_law 552 = .ok (.aload_n 2, 1) := by decide +kernel
theorem dL_law_553 : decode cL_law 553 = .ok (.aload_n 0, 1) := by decide +kernel
theorem dL_law_554 : decode cL_law 554 = .ok (.iload_n 3, 1) := by decide +kernel
theorem dL_law_555 : decode cL_law 555 = .ok (.iconst 1, 1) := by decide +kernel
theorem dL_law_556 : decode cL_law 556 = .ok (.iadd, 1) := by decide +kernel
theorem dL_law_557 : decode cL_law 557 = .ok (.iaload, 1) := by decide +kernel
theorem dL_law_558 : decode cL_law 558 = .ok (.aload_n 0, 1) := by decide +kernel
theorem dL_law_559 : decode cL_law 559 = .ok (.iload_n 3, 1) := by decide +kernel
theorem dL_law_560 : decode cL_law 560 = .ok (.iconst 2, 1) := by decide +kernel
theorem dL_law_561 : decode cL_law 561 = .ok (.iadd, 1) := by decide +kernel
theorem dL_law_562 : decode cL_law 562 = .ok (.iaload, 1) := by decide +kernel
theorem dL_law_563 : decode cL_law 563 = .ok (.invokevirtual 67, 3) := by decide +kernel
theorem dL_law_566 : decode cL_law 566 = .ok (.if_icmp .eq 655, 3) := by decide +kernel
theorem dL_law_569 : decode cL_law 569 = .ok (.iconst 0, 1) := by decide +kernel
theorem dL_law_570 : decode cL_law 570 = .ok (.ireturn, 1) := by decide +kernel
theorem dL_law_571 : decode cL_law 571 = .ok (.aload_n 1, 1) := by decide +kernel
theorem dL_law_572 : decode cL_law 572 = .ok (.aload_n 0, 1) := by decide +kernel
theorem dL_law_573 : decode cL_law 573 = .ok (.iload_n 3, 1) := by decide +kernel
theorem dL_law_574 : decode cL_law 574 = .ok (.iconst 1, 1) := by decide +kernel
theorem dL_law_575 : decode cL_law 575 = .ok (.iadd, 1) := by decide +kernel
theorem dL_law_576 : decode cL_law 576 = .ok (.iaload, 1) := by decide +kernel
theorem dL_law_577 : decode cL_law 577 = .ok (.aload_n 0, 1) := by decide +kernel
theorem dL_law_578 : decode cL_law 578 = .ok (.iload_n 3, 1) := by decide +kernel
theorem dL_law_579 : decode cL_law 579 = .ok (.iconst 2, 1) := by decide +kernel
theorem dL_law_580 : decode cL_law 580 = .ok (.iadd, 1) := by decide +kernel
theorem dL_law_581 : decode cL_law 581 = .ok (.iaload, 1) := by decide +kernel
theorem dL_law_582 : decode cL_law 582 = .ok (.invokevirtual 68, 3) := by decide +kernel
theorem dL_law_585 : decode cL_law 585 = .ok (.aload_n 2, 1) := by decide +kernel
theorem dL_law_586 : decode cL_law 586 = .ok (.aload_n 0, 1) := by decide +kernel
theorem dL_law_587 : decode cL_law 587 = .ok (.iload_n 3, 1) := by decide +kernel
theorem dL_law_588 : decode cL_law 588 = .ok (.iconst 1, 1) := by decide +kernel
theorem dL_law_589 : decode cL_law 589 = .ok (.iadd, 1) := by decide +kernel
theorem dL_law_590 : decode cL_law 590 = .ok (.iaload, 1) := by decide +kernel
theorem dL_law_591 : decode cL_law 591 = .ok (.aload_n 0, 1) := by decide +kernel
theorem dL_law_592 : decode cL_law 592 = .ok (.iload_n 3, 1) := by decide +kernel
theorem dL_law_593 : decode cL_law 593 = .ok (.iconst 2, 1) := by decide +kernel
theorem dL_law_594 : decode cL_law 594 = .ok (.iadd, 1) := by decide +kernel
theorem dL_law_595 : decode cL_law 595 = .ok (.iaload, 1) := by decide +kernel
theorem dL_law_596 : decode cL_law 596 = .ok (.invokevirtual 71, 3) := by decide +kernel
theorem dL_law_599 : decode cL_law 599 = .ok (.if_icmp .eq 622, 3) := by decide +kernel
theorem dL_law_602 : decode cL_law 602 = .ok (.iconst 0, 1) := by decide +kernel
theorem dL_law_603 : decode cL_law 603 = .ok (.ireturn, 1) := by decide +kernel
theorem dL_law_604 : decode cL_law 604 = .ok (.aload_n 1, 1) := by decide +kernel
theorem dL_law_605 : decode cL_law 605 = .ok (.aload_n 0, 1) := by decide +kernel
theorem dL_law_606 : decode cL_law 606 = .ok (.iload_n 3, 1) := by decide +kernel
theorem dL_law_607 : decode cL_law 607 = .ok (.iconst 1, 1) := by decide +kernel
theorem dL_law_608 : decode cL_law 608 = .ok (.iadd, 1) := by decide +kernel
theorem dL_law_609 : decode cL_law 609 = .ok (.iaload, 1) := by decide +kernel
theorem dL_law_610 : decode cL_law 610 = .ok (.invokevirtual 72, 3) := by decide +kernel
theorem dL_law_613 : decode cL_law 613 = .ok (.aload_n 2, 1) := by decide +kernel
theorem dL_law_614 : decode cL_law 614 = .ok (.aload_n 0, 1) := by decide +kernel
theorem dL_law_615 : decode cL_law 615 = .ok (.iload_n 3, 1) := by decide +kernel
theorem dL_law_616 : decode cL_law 616 = .ok (.iconst 1, 1) := by decide +kernel
theorem dL_law_617 : decode cL_law 617 = .ok (.iadd, 1) := by decide +kernel
theorem dL_law_618 : decode cL_law 618 = .ok (.iaload, 1) := by decide +kernel
theorem dL_law_619 : decode cL_law 619 = .ok (.invokevirtual 75, 3) := by decide +kernel
theorem dL_law_622 : decode cL_law 622 = .ok (.if_icmp .eq 599, 3) := by decide +kernel
theorem dL_law_625 : decode cL_law 625 = .ok (.iconst 0, 1) := by decide +kernel
theorem dL_law_626 : decode cL_law 626 = .ok (.ireturn, 1) := by decide +kernel
theorem dL_law_627 : decode cL_law 627 = .ok (.aload_n 1, 1) := by decide +kernel
theorem dL_law_628 : decode cL_law 628 = .ok (.aload_n 0, 1) := by decide +kernel
theorem dL_law_629 : decode cL_law 629 = .ok (.iload_n 3, 1) := by decide +kernel
theorem dL_law_630 : decode cL_law 630 = .ok (.iconst 1, 1) := by decide +kernel
theorem dL_law_631 : decode cL_law 631 = .ok (.iadd, 1) := by decide +kernel
theorem dL_law_632 : decode cL_law 632 = .ok (.iaload, 1) := by decide +kernel
theorem dL_law_633 : decode cL_law 633 = .ok (.invokevirtual 76, 3) := by decide +kernel
theorem dL_law_636 : decode cL_law 636 = .ok (.aload_n 2, 1) := by decide +kernel
theorem dL_law_637 : decode cL_law 637 = .ok (.aload_n 0, 1) := by decide +kernel
theorem dL_law_638 : decode cL_law 638 = .ok (.iload_n 3, 1) := by decide +kernel
theorem dL_law_639 : decode cL_law 639 = .ok (.iconst 1, 1) := by decide +kernel
theorem dL_law_640 : decode cL_law 640 = .ok (.iadd, 1) := by decide +kernel
theorem dL_law_641 : decode cL_law 641 = .ok (.iaload, 1) := by decide +kernel
theorem dL_law_642 : decode cL_law 642 = .ok (.invokevirtual 79, 3) := by decide +kernel
theorem dL_law_645 : decode cL_law 645 = .ok (.if_icmp .eq 576, 3) := by decide +kernel
theorem dL_law_648 : decode cL_law 648 = .ok (.iconst 0, 1) := by decide +kernel
theorem dL_law_649 : decode cL_law 649 = .ok (.ireturn, 1) := by decide +kernel
theorem dL_law_650 : decode cL_law 650 = .ok (.aload_n 1, 1) := by decide +kernel
theorem dL_law_651 : decode cL_law 651 = .ok (.aload_n 0, 1) := by decide +kernel
theorem dL_law_652 : decode cL_law 652 = .ok (.iload_n 3, 1) := by decide +kernel
theorem dL_law_653 : decode cL_law 653 = .ok (.iconst 1, 1) := by decide +kernel
theorem dL_law_654 : decode cL_law 654 = .ok (.iadd, 1) := by decide +kernel
theorem dL_law_655 : decode cL_law 655 = .ok (.iaload, 1) := by decide +kernel
theorem dL_law_656 : decode cL_law 656 = .ok (.invokevirtual 80, 3) := by decide +kernel
theorem dL_law_659 : decode cL_law 659 = .ok (.aload_n 2, 1) := by decide +kernel
theorem dL_law_660 : decode cL_law 660 = .ok (.aload_n 0, 1) := by decide +kernel
theorem dL_law_661 : decode cL_law 661 = .ok (.iload_n 3, 1) := by decide +kernel
theorem dL_law_662 : decode cL_law 662 = .ok (.iconst 1, 1) := by decide +kernel
theorem dL_law_663 : decode cL_law 663 = .ok (.iadd, 1) := by decide +kernel
theorem dL_law_664 : decode cL_law 664 = .ok (.iaload, 1) := by decide +kernel
theorem dL_law_665 : decode cL_law 665 = .ok (.invokevirtual 83, 3) := by decide +kernel
theorem dL_law_668 : decode cL_law 668 = .ok (.if_icmp .eq 553, 3) := by decide +kernel
theorem dL_law_671 : decode cL_law 671 = .ok (.iconst 0, 1) := by decide +kernel
theorem dL_law_672 : decode cL_law 672 = .ok (.ireturn, 1) := by decide +kernel
theorem dL_law_673 : decode cL_law 673 = .ok (.aload_n 1, 1) := by decide +kernel
theorem dL_law_674 : decode cL_law 674 = .ok (.aload_n 0, 1) := by decide +kernel
theorem dL_law_675 : decode cL_law 675 = .ok (.iload_n 3, 1) := by decide +kernel
theorem dL_law_676 : decode cL_law 676 = .ok (.iconst 1, 1) := by decide +kernel
theorem dL_law_677 : decode cL_law 677 = .ok (.iadd, 1) := by decide +kernel
theorem dL_law_678 : decode cL_law 678 = .ok (.iaload, 1) := by decide +kernel
theorem dL_law_679 : decode cL_law 679 = .ok (.invokevirtual 84, 3) := by decide +kernel
theorem dL_law_682 : decode cL_law 682 = .ok (.aload_n 2, 1) := by decide +kernel
theorem dL_law_683 : decode cL_law 683 = .ok (.aload_n 0, 1) := by decide +kernel
theorem dL_law_684 : decode cL_law 684 = .ok (.iload_n 3, 1) := by decide +kernel
theorem dL_law_685 : decode cL_law 685 = .ok (.iconst 1, 1) := by decide +kernel
theorem dL_law_686 : decode cL_law 686 = .ok (.iadd, 1) := by decide +kernel
theorem dL_law_687 : decode cL_law 687 = .ok (.iaload, 1) := by decide +kernel
theorem dL_law_688 : decode cL_law 688 = .ok (.invokevirtual 87, 3) := by decide +kernel
theorem dL_law_691 : decode cL_law 691 = .ok (.if_icmp .eq 530, 3) := by decide +kernel
theorem dL_law_694 : decode cL_law 694 = .ok (.iconst 0, 1) := by decide +kernel
theorem dL_law_695 : decode cL_law 695 = .ok (.ireturn, 1) := by decide +kernel
theorem dL_law_696 : decode cL_law 696 = .ok (.aload_n 1, 1) := by decide +kernel
theorem dL_law_697 : decode cL_law 697 = .ok (.aload_n 0, 1) := by decide +kernel
theorem dL_law_698 : decode cL_law 698 = .ok (.iload_n 3, 1) := by decide +kernel
theorem dL_law_699 : decode cL_law 699 = .ok (.iconst 1, 1) := by decide +kernel
theorem dL_law_700 : decode cL_law 700 = .ok (.iadd, 1) := by decide +kernel
theorem dL_law_701 : decode cL_law 701 = .ok (.iaload, 1) := by decide +kernel
theorem dL_law_702 : decode cL_law 702 = .ok (.aload_n 0, 1) := by decide +kernel
theorem dL_law_703 : decode cL_law 703 = .ok (.iload_n 3, 1) := by decide +kernel
theorem dL_law_704 : decode cL_law 704 = .ok (.iconst 2, 1) := by decide +kernel
theorem dL_law_705 : decode cL_law 705 = .ok (.iadd, 1) := by decide +kernel
theorem dL_law_706 : decode cL_law 706 = .ok (.iaload, 1) := by decide +kernel
theorem dL_law_707 : decode cL_law 707 = .ok (.invokevirtual 88, 3) := by decide +kernel
theorem dL_law_710 : decode cL_law 710 = .ok (.aload_n 2, 1) := by decide +kernel
theorem dL_law_711 : decode cL_law 711 = .ok (.aload_n 0, 1) := by decide +kernel
theorem dL_law_712 : decode cL_law 712 = .ok (.iload_n 3, 1) := by decide +kernel
theorem dL_law_713 : decode cL_law 713 = .ok (.iconst 1, 1) := by decide +kernel
theorem dL_law_714 : decode cL_law 714 = .ok (.iadd, 1) := by decide +kernel
theorem dL_law_715 : decode cL_law 715 = .ok (.iaload, 1) := by decide +kernel
theorem dL_law_716 : decode cL_law 716 = .ok (.aload_n 0, 1) := by decide +kernel
theorem dL_law_717 : decode cL_law 717 = .ok (.iload_n 3, 1) := by decide +kernel
theorem dL_law_718 : decode cL_law 718 = .ok (.iconst 2, 1) := by decide +kernel
theorem dL_law_719 : decode cL_law 719 = .ok (.iadd, 1) := by decide +kernel
theorem dL_law_720 : decode cL_law 720 = .ok (.iaload, 1) := by decide +kernel
theorem dL_law_721 : decode cL_law 721 = .ok (.invokevirtual 91, 3) := by decide +kernel
theorem dL_law_724 : decode cL_law 724 = .ok (.if_icmp .eq 497, 3) := by decide +kernel
theorem dL_law_727 : decode cL_law 727 = .ok (.iconst 0, 1) := by decide +kernel
theorem dL_law_728 : decode cL_law 728 = .ok (.ireturn, 1) := by decide +kernel
theorem dL_law_729 : decode cL_law 729 = .ok (.aload_n 1, 1) := by decide +kernel
theorem dL_law_730 : decode cL_law 730 = .ok (.aload_n 0, 1) := by decide +kernel
theorem dL_law_731 : decode cL_law 731 = .ok (.iload_n 3, 1) := by decide +kernel
theorem dL_law_732 : decode cL_law 732 = .ok (.iconst 1, 1) := by decide +kernel
theorem dL_law_733 : decode cL_law 733 = .ok (.iadd, 1) := by decide +kernel
theorem dL_law_734 : decode cL_law 734 = .ok (.iaload, 1) := by decide +kernel
theorem dL_law_735 : decode cL_law 735 = .ok (.invokevirtual 92, 3) := by decide +kernel
theorem dL_law_738 : decode cL_law 738 = .ok (.aload_n 2, 1) := by decide +kernel
theorem dL_law_739 : decode cL_law 739 = .ok (.aload_n 0, 1) := by decide +kernel
theorem dL_law_740 : decode cL_law 740 = .ok (.iload_n 3, 1) := by decide +kernel
theorem dL_law_741 : decode cL_law 741 = .ok (.iconst 1, 1) := by decide +kernel
theorem dL_law_742 : decode cL_law 742 = .ok (.iadd, 1) := by decide +kernel
theorem dL_law_743 : decode cL_law 743 = .ok (.iaload, 1) := by decide +kernel
theorem dL_law_744 : decode cL_law 744 = .ok (.invokevirtual 95, 3) := by decide +kernel
theorem dL_law_747 : decode cL_law 747 = .ok (.if_icmp .eq 474, 3) := by decide +kernel
theorem dL_law_750 : decode cL_law 750 = .ok (.iconst 0, 1) := by decide +kernel
theorem dL_law_751 : decode cL_law 751 = .ok (.ireturn, 1) := by decide +kernel
theorem dL_law_752 : decode cL_law 752 = .ok (.aload_n 1, 1) := by decide +kernel
theorem dL_law_753 : decode cL_law 753 = .ok (.aload_n 0, 1) := by decide +kernel
theorem dL_law_754 : decode cL_law 754 = .ok (.iload_n 3, 1) := by decide +kernel
theorem dL_law_755 : decode cL_law 755 = .ok (.iconst 1, 1) := by decide +kernel
theorem dL_law_756 : decode cL_law 756 = .ok (.iadd, 1) := by decide +kernel
theorem dL_law_757 : decode cL_law 757 = .ok (.iaload, 1) := by decide +kernel
theorem dL_law_758 : decode cL_law 758 = .ok (.invokevirtual 96, 3) := by decide +kernel
theorem dL_law_761 : decode cL_law 761 = .ok (.aload_n 2, 1) := by decide +kernel
theorem dL_law_762 : decode cL_law 762 = .ok (.aload_n 0, 1) := by decide +kernel
theorem dL_law_763 : decode cL_law 763 = .ok (.iload_n 3, 1) := by decide +kernel
theorem dL_law_764 : decode cL_law 764 = .ok (.iconst 1, 1) := by decide +kernel
theorem dL_law_765 : decode cL_law 765 = .ok (.iadd, 1) := by decide +kernel
theorem dL_law_766 : decode cL_law 766 = .ok (.iaload, 1) := by decide +kernel
theorem dL_law_767 : decode cL_law 767 = .ok (.invokevirtual 99, 3) := by decide +kernel
theorem dL_law_770 : decode cL_law 770 = .ok (.if_icmp .eq 451, 3) := by decide +kernel
theorem dL_law_773 : decode cL_law 773 = .ok (.iconst 0, 1) := by decide +kernel
theorem dL_law_774 : decode cL_law 774 = .ok (.ireturn, 1) := by decide +kernel
theorem dL_law_775 : decode cL_law 775 = .ok (.aload_n 1, 1) := by decide +kernel
theorem dL_law_776 : decode cL_law 776 = .ok (.aload_n 0, 1) := by decide +kernel
theorem dL_law_777 : decode cL_law 777 = .ok (.iload_n 3, 1) := by decide +kernel
theorem dL_law_778 : decode cL_law 778 = .ok (.iconst 1, 1) := by decide +kernel
theorem dL_law_779 : decode cL_law 779 = .ok (.iadd, 1) := by decide +kernel
theorem dL_law_780 : decode cL_law 780 = .ok (.iaload, 1) := by decide +kernel
theorem dL_law_781 : decode cL_law 781 = .ok (.invokevirtual 100, 3) := by decide +kernel
theorem dL_law_784 : decode cL_law 784 = .ok (.aload_n 2, 1) := by decide +kernel
theorem dL_law_785 : decode cL_law 785 = .ok (.aload_n 0, 1) := by decide +kernel
theorem dL_law_786 : decode cL_law 786 = .ok (.iload_n 3, 1) := by decide +kernel
theorem dL_law_787 : decode cL_law 787 = .ok (.iconst 1, 1) := by decide +kernel
theorem dL_law_788 : decode cL_law 788 = .ok (.iadd, 1) := by decide +kernel
theorem dL_law_789 : decode cL_law 789 = .ok (.iaload, 1) := by decide +kernel
theorem dL_law_790 : decode cL_law 790 = .ok (.invokevirtual 103, 3) := by decide +kernel
theorem dL_law_793 : decode cL_law 793 = .ok (.if_icmp .eq 428, 3) := by decide +kernel
theorem dL_law_796 : decode cL_law 796 = .ok (.iconst 0, 1) := by decide +kernel
theorem dL_law_797 : decode cL_law 797 = .ok (.ireturn, 1) := by decide +kernel
theorem dL_law_798 : decode cL_law 798 = .ok (.aload_n 1, 1) := by decide +kernel
theorem dL_law_799 : decode cL_law 799 = .ok (.aload_n 0, 1) := by decide +kernel
theorem dL_law_800 : decode cL_law 800 = .ok (.iload_n 3, 1) := by decide +kernel
theorem dL_law_801 : decode cL_law 801 = .ok (.iconst 1, 1) := by decide +kernel
theorem dL_law_802 : decode cL_law 802 = .ok (.iadd, 1) := by decide +kernel
theorem dL_law_803 : decode cL_law 803 = .ok (.iaload, 1) := by decide +kernel
theorem dL_law_804 : decode cL_law 804 = .ok (.aload_n 0, 1) := by decide +kernel
theorem dL_law_805 : decode cL_law 805 = .ok (.iload_n 3, 1) := by decide +kernel
theorem dL_law_806 : decode cL_law 806 = .ok (.iconst 2, 1) := by decide +kernel
theorem dL_law_807 : decode cL_law 807 = .ok (.iadd, 1) := by decide +kernel
theorem dL_law_808 : decode cL_law 808 = .ok (.iaload, 1) := by decide +kernel
theorem dL_law_809 : decode cL_law 809 = .ok (.invokevirtual 104, 3) := by decide +kernel
theorem dL_law_812 : decode cL_law 812 = .ok (.aload_n 2, 1) := by decide +kernel
theorem dL_law_813 : decode cL_law 813 = .ok (.aload_n 0, 1) := by decide +kernel
theorem dL_law_814 : decode cL_law 814 = .ok (.iload_n 3, 1) := by decide +kernel
theorem dL_law_815 : decode cL_law 815 = .ok (.iconst 1, 1) := by decide +kernel
theorem dL_law_816 : decode cL_law 816 = .ok (.iadd, 1) := by decide +kernel
theorem dL_law_817 : decode cL_law 817 = .ok (.iaload, 1) := by decide +kernel
theorem dL_law_818 : decode cL_law 818 = .ok (.aload_n 0, 1) := by decide +kernel
theorem dL_law_819 : decode cL_law 819 = .ok (.iload_n 3, 1) := by decide +kernel
theorem dL_law_820 : decode cL_law 820 = .ok (.iconst 2, 1) := by decide +kernel
theorem dL_law_821 : decode cL_law 821 = .ok (.iadd, 1) := by decide +kernel
theorem dL_law_822 : decode cL_law 822 = .ok (.iaload, 1) := by decide +kernel
theorem dL_law_823 : decode cL_law 823 = .ok (.invokevirtual 107, 3) := by decide +kernel
theorem dL_law_826 : decode cL_law 826 = .ok (.if_icmp .eq 395, 3) := by decide +kernel
theorem dL_law_829 : decode cL_law 829 = .ok (.iconst 0, 1) := by decide +kernel
theorem dL_law_830 : decode cL_law 830 = .ok (.ireturn, 1) := by decide +kernel
theorem dL_law_831 : decode cL_law 831 = .ok (.aload_n 1, 1) := by decide +kernel
theorem dL_law_832 : decode cL_law 832 = .ok (.invokevirtual 108, 3) := by decide +kernel
theorem dL_law_835 : decode cL_law 835 = .ok (.aload_n 2, 1) := by decide +kernel
theorem dL_law_836 : decode cL_law 836 = .ok (.invokevirtual 111, 3) := by decide +kernel
theorem dL_law_839 : decode cL_law 839 = .ok (.if_icmp .eq 382, 3) := by decide +kernel
theorem dL_law_842 : decode cL_law 842 = .ok (.iconst 0, 1) := by decide +kernel
theorem dL_law_843 : decode cL_law 843 = .ok (.ireturn, 1) := by decide +kernel
theorem dL_law_844 : decode cL_law 844 = .ok (.aload_n 1, 1) := by decide +kernel
theorem dL_law_845 : decode cL_law 845 = .ok (.invokevirtual 112, 3) := by decide +kernel
theorem dL_law_848 : decode cL_law 848 = .ok (.aload_n 2, 1) := by decide +kernel
theorem dL_law_849 : decode cL_law 849 = .ok (.invokevirtual 115, 3) := by decide +kernel
theorem dL_law_852 : decode cL_law 852 = .ok (.if_icmp .eq 369, 3) := by decide +kernel
theorem dL_law_855 : decode cL_law 855 = .ok (.iconst 0, 1) := by decide +kernel
theorem dL_law_856 : decode cL_law 856 = .ok (.ireturn, 1) := by decide +kernel
theorem dL_law_857 : decode cL_law 857 = .ok (.aload_n 1, 1) := by decide +kernel
theorem dL_law_858 : decode cL_law 858 = .ok (.aload_n 0, 1) := by decide +kernel
theorem dL_law_859 : decode cL_law 859 = .ok (.iload_n 3, 1) := by decide +kernel
theorem dL_law_860 : decode cL_law 860 = .ok (.iconst 1, 1) := by decide +kernel
theorem dL_law_861 : decode cL_law 861 = .ok (.iadd, 1) := by decide +kernel
theorem dL_law_862 : decode cL_law 862 = .ok (.iaload, 1) := by decide +kernel
theorem dL_law_863 : decode cL_law 863 = .ok (.aload_n 0, 1) := by decide +kernel
theorem dL_law_864 : decode cL_law 864 = .ok (.iload_n 3, 1) := by decide +kernel
theorem dL_law_865 : decode cL_law 865 = .ok (.iconst 2, 1) := by decide +kernel
theorem dL_law_866 : decode cL_law 866 = .ok (.iadd, 1) := by decide +kernel
theorem dL_law_867 : decode cL_law 867 = .ok (.iaload, 1) := by decide +kernel
theorem dL_law_868 : decode cL_law 868 = .ok (.aload_n 0, 1) := by decide +kernel
theorem dL_law_869 : decode cL_law 869 = .ok (.iload_n 3, 1) := by decide +kernel
theorem dL_law_870 : decode cL_law 870 = .ok (.iconst 3, 1) := by decide +kernel
theorem dL_law_871 : decode cL_law 871 = .ok (.iadd, 1) := by decide +kernel
theorem dL_law_872 : decode cL_law 872 = .ok (.iaload, 1) := by decide +kernel
theorem dL_law_873 : decode cL_law 873 = .ok (.invokevirtual 116, 3) := by decide +kernel
theorem dL_law_876 : decode cL_law 876 = .ok (.aload_n 2, 1) := by decide +kernel
theorem dL_law_877 : decode cL_law 877 = .ok (.aload_n 0, 1) := by decide +kernel
theorem dL_law_878 : decode cL_law 878 = .ok (.iload_n 3, 1) := by decide +kernel
theorem dL_law_879 : decode cL_law 879 = .ok (.iconst 1, 1) := by decide +kernel
theorem dL_law_880 : decode cL_law 880 = .ok (.iadd, 1) := by decide +kernel
theorem dL_law_881 : decode cL_law 881 = .ok (.iaload, 1) := by decide +kernel
theorem dL_law_882 : decode cL_law 882 = .ok (.aload_n 0, 1) := by decide +kernel
theorem dL_law_883 : decode cL_law 883 = .ok (.iload_n 3, 1) := by decide +kernel
theorem dL_law_884 : decode cL_law 884 = .ok (.iconst 2, 1) := by decide +kernel
theorem dL_law_885 : decode cL_law 885 = .ok (.iadd, 1) := by decide +kernel
theorem dL_law_886 : decode cL_law 886 = .ok (.iaload, 1) := by decide +kernel
theorem dL_law_887 : decode cL_law 887 = .ok (.aload_n 0, 1) := by decide +kernel
theorem dL_law_888 : decode cL_law 888 = .ok (.iload_n 3, 1) := by decide +kernel
theorem dL_law_889 : decode cL_law 889 = .ok (.iconst 3, 1) := by decide +kernel
theorem dL_law_890 : decode cL_law 890 = .ok (.iadd, 1) := by decide +kernel
theorem dL_law_891 : decode cL_law 891 = .ok (.iaload, 1) := by decide +kernel
theorem dL_law_892 : decode cL_law 892 = .ok (.invokevirtual 120, 3) := by decide +kernel
theorem dL_law_895 : decode cL_law 895 = .ok (.if_icmp .eq 326, 3) := by decide +kernel
theorem dL_law_898 : decode cL_law 898 = .ok (.iconst 0, 1) := by decide +kernel
theorem dL_law_899 : decode cL_law 899 = .ok (.ireturn, 1) := by decide +kernel
theorem dL_law_900 : decode cL_law 900 = .ok (.aload_n 1, 1) := by decide +kernel
theorem dL_law_901 : decode cL_law 901 = .ok (.aload_n 0, 1) := by decide +kernel
theorem dL_law_902 : decode cL_law 902 = .ok (.iload_n 3, 1) := by decide +kernel
theorem dL_law_903 : decode cL_law 903 = .ok (.iconst 1, 1) := by decide +kernel
theorem dL_law_904 : decode cL_law 904 = .ok (.iadd, 1) := by decide +kernel
theorem dL_law_905 : decode cL_law 905 = .ok (.iaload, 1) := by decide +kernel
theorem dL_law_906 : decode cL_law 906 = .ok (.aload_n 0, 1) := by decide +kernel
theorem dL_law_907 : decode cL_law 907 = .ok (.iload_n 3, 1) := by decide +kernel
theorem dL_law_908 : decode cL_law 908 = .ok (.iconst 2, 1) := by decide +kernel
theorem dL_law_909 : decode cL_law 909 = .ok (.iadd, 1) := by decide +kernel
theorem dL_law_910 : decode cL_law 910 = .ok (.iaload, 1) := by decide +kernel
theorem dL_law_911 : decode cL_law 911 = .ok (.aload_n 0, 1) := by decide +kernel
theorem dL_law_912 : decode cL_law 912 = .ok (.iload_n 3, 1) := by decide +kernel
theorem dL_law_913 : decode cL_law 913 = .ok (.iconst 3, 1) := by decide +kernel
theorem dL_law_914 : decode cL_law 914 = .ok (.iadd, 1) := by decide +kernel
theorem dL_law_915 : decode cL_law 915 = .ok (.iaload, 1) := by decide +kernel
theorem dL_law_916 : decode cL_law 916 = .ok (.i2l, 1) := by decide +kernel
theorem dL_law_917 : decode cL_law 917 = .ok (.bipush 32, 2) := by decide +kernel
theorem dL_law_919 : decode cL_law 919 = .ok (.lshl, 1) := by decide +kernel
theorem dL_law_920 : decode cL_law 920 = .ok (.aload_n 0, 1) := by decide +kernel
theorem dL_law_921 : decode cL_law 921 = .ok (.iload_n 3, 1) := by decide +kernel
theorem dL_law_922 : decode cL_law 922 = .ok (.iconst 4, 1) := by decide +kernel
theorem dL_law_923 : decode cL_law 923 = .ok (.iadd, 1) := by decide +kernel
theorem dL_law_924 : decode cL_law 924 = .ok (.iaload, 1) := by decide +kernel
theorem dL_law_925 : decode cL_law 925 = .ok (.i2l, 1) := by decide +kernel
theorem dL_law_926 : decode cL_law 926 = .ok (.ldc2_w 121, 3) := by decide +kernel
theorem dL_law_929 : decode cL_law 929 = .ok (.land, 1) := by decide +kernel
theorem dL_law_930 : decode cL_law 930 = .ok (.lor, 1) := by decide +kernel
theorem dL_law_931 : decode cL_law 931 = .ok (.invokevirtual 123, 3) := by decide +kernel
theorem dL_law_934 : decode cL_law 934 = .ok (.aload_n 2, 1) := by decide +kernel
theorem dL_law_935 : decode cL_law 935 = .ok (.aload_n 0, 1) := by decide +kernel
theorem dL_law_936 : decode cL_law 936 = .ok (.iload_n 3, 1) := by decide +kernel
theorem dL_law_937 : decode cL_law 937 = .ok (.iconst 1, 1) := by decide +kernel
theorem dL_law_938 : decode cL_law 938 = .ok (.iadd, 1) := by decide +kernel
theorem dL_law_939 : decode cL_law 939 = .ok (.iaload, 1) := by decide +kernel
theorem dL_law_940 : decode cL_law 940 = .ok (.aload_n 0, 1) := by decide +kernel
theorem dL_law_941 : decode cL_law 941 = .ok (.iload_n 3, 1) := by decide +kernel
theorem dL_law_942 : decode cL_law 942 = .ok (.iconst 2, 1) := by decide +kernel
theorem dL_law_943 : decode cL_law 943 = .ok (.iadd, 1) := by decide +kernel
theorem dL_law_944 : decode cL_law 944 = .ok (.iaload, 1) := by decide +kernel
theorem dL_law_945 : decode cL_law 945 = .ok (.aload_n 0, 1) := by decide +kernel
theorem dL_law_946 : decode cL_law 946 = .ok (.iload_n 3, 1) := by decide +kernel
theorem dL_law_947 : decode cL_law 947 = .ok (.iconst 3, 1) := by decide +kernel
theorem dL_law_948 : decode cL_law 948 = .ok (.iadd, 1) := by decide +kernel
theorem dL_law_949 : decode cL_law 949 = .ok (.iaload, 1) := by decide +kernel
theorem dL_law_950 : decode cL_law 950 = .ok (.i2l, 1) := by decide +kernel
theorem dL_law_951 : decode cL_law 951 = .ok (.bipush 32, 2) := by decide +kernel
theorem dL_law_953 : decode cL_law 953 = .ok (.lshl, 1) := by decide +kernel
theorem dL_law_954 : decode cL_law 954 = .ok (.aload_n 0, 1) := by decide +kernel
theorem dL_law_955 : decode cL_law 955 = .ok (.iload_n 3, 1) := by decide +kernel
theorem dL_law_956 : decode cL_law 956 = .ok (.iconst 4, 1) := by decide +kernel
theorem dL_law_957 : decode cL_law 957 = .ok (.iadd, 1) := by decide +kernel
theorem dL_law_958 : decode cL_law 958 = .ok (.iaload, 1) := by decide +kernel
theorem dL_law_959 : decode cL_law 959 = .ok (.i2l, 1) := by decide +kernel
theorem dL_law_960 : decode cL_law 960 = .ok (.ldc2_w 121, 3) := by decide +kernel
theorem dL_law_963 : decode cL_law 963 = .ok (.land, 1) := by decide +kernel
theorem dL_law_964 : decode cL_law 964 = .ok (.lor, 1) := by decide +kernel
theorem dL_law_965 : decode cL_law 965 = .ok (.invokevirtual 127, 3) := by decide +kernel
theorem dL_law_968 : decode cL_law 968 = .ok (.lcmp, 1) := by decide +kernel
theorem dL_law_969 : decode cL_law 969 = .ok (.ifCond .eq 252, 3) := by decide +kernel
theorem dL_law_972 : decode cL_law 972 = .ok (.iconst 0, 1) := by decide +kernel
theorem dL_law_973 : decode cL_law 973 = .ok (.ireturn, 1) := by decide +kernel
theorem dL_law_974 : decode cL_law 974 = .ok (.aload_n 1, 1) := by decide +kernel
theorem dL_law_975 : decode cL_law 975 = .ok (.aload_n 0, 1) := by decide +kernel
theorem dL_law_976 : decode cL_law 976 = .ok (.iload_n 3, 1) := by decide +kernel
theorem dL_law_977 : decode cL_law 977 = .ok (.iconst 1, 1) := by decide +kernel
theorem dL_law_978 : decode cL_law 978 = .ok (.iadd, 1) := by decide +kernel
theorem dL_law_979 : decode cL_law 979 = .ok (.iaload, 1) := by decide +kernel
theorem dL_law_980 : decode cL_law 980 = .ok (.aload_n 0, 1) := by decide +kernel
theorem dL_law_981 : decode cL_law 981 = .ok (.iload_n 3, 1) := by decide +kernel
theorem dL_law_982 : decode cL_law 982 = .ok (.iconst 2, 1) := by decide +kernel
theorem dL_law_983 : decode cL_law 983 = .ok (.iadd, 1) := by decide +kernel
theorem dL_law_984 : decode cL_law 984 = .ok (.iaload, 1) := by decide +kernel
theorem dL_law_985 : decode cL_law 985 = .ok (.aload_n 0, 1) := by decide +kernel
theorem dL_law_986 : decode cL_law 986 = .ok (.iload_n 3, 1) := by decide +kernel
theorem dL_law_987 : decode cL_law 987 = .ok (.iconst 3, 1) := by decide +kernel
theorem dL_law_988 : decode cL_law 988 = .ok (.iadd, 1) := by decide +kernel
theorem dL_law_989 : decode cL_law 989 = .ok (.iaload, 1) := by decide +kernel
theorem dL_law_990 : decode cL_law 990 = .ok (.aload_n 0, 1) := by decide +kernel
theorem dL_law_991 : decode cL_law 991 = .ok (.iload_n 3, 1) := by decide +kernel
theorem dL_law_992 : decode cL_law 992 = .ok (.iconst 4, 1) := by decide +kernel
theorem dL_law_993 : decode cL_law 993 = .ok (.iadd, 1) := by decide +kernel
theorem dL_law_994 : decode cL_law 994 = .ok (.iaload, 1) := by decide +kernel
theorem dL_law_995 : decode cL_law 995 = .ok (.aload_n 0, 1) := by decide +kernel
theorem dL_law_996 : decode cL_law 996 = .ok (.iload_n 3, 1) := by decide +kernel
theorem dL_law_997 : decode cL_law 997 = .ok (.iconst 5, 1) := by decide +kernel
theorem dL_law_998 : decode cL_law 998 = .ok (.iadd, 1) := by decide +kernel
theorem dL_law_999 : decode cL_law 999 = .ok (.iaload, 1) := by decide +kernel
theorem dL_law_1000 : decode cL_law 1000 = .ok (.invokevirtual 128, 3) := by decide +kernel
theorem dL_law_1003 : decode cL_law 1003 = .ok (.aload_n 2, 1) := by decide +kernel
theorem dL_law_1004 : decode cL_law 1004 = .ok (.aload_n 0, 1) := by decide +kernel
theorem dL_law_1005 : decode cL_law 1005 = .ok (.iload_n 3, 1) := by decide +kernel
theorem dL_law_1006 : decode cL_law 1006 = .ok (.iconst 1, 1) := by decide +kernel
theorem dL_law_1007 : decode cL_law 1007 = .ok (.iadd, 1) := by decide +kernel
theorem dL_law_1008 : decode cL_law 1008 = .ok (.iaload, 1) := by decide +kernel
theorem dL_law_1009 : decode cL_law 1009 = .ok (.aload_n 0, 1) := by decide +kernel
theorem dL_law_1010 : decode cL_law 1010 = .ok (.iload_n 3, 1) := by decide +kernel
theorem dL_law_1011 : decode cL_law 1011 = .ok (.iconst 2, 1) := by decide +kernel
theorem dL_law_1012 : decode cL_law 1012 = .ok (.iadd, 1) := by decide +kernel
theorem dL_law_1013 : decode cL_law 1013 = .ok (.iaload, 1) := by decide +kernel
theorem dL_law_1014 : decode cL_law 1014 = .ok (.aload_n 0, 1) := by decide +kernel
theorem dL_law_1015 : decode cL_law 1015 = .ok (.iload_n 3, 1) := by decide +kernel
theorem dL_law_1016 : decode cL_law 1016 = .ok (.iconst 3, 1) := by decide +kernel
theorem dL_law_1017 : decode cL_law 1017 = .ok (.iadd, 1) := by decide +kernel
theorem dL_law_1018 : decode cL_law 1018 = .ok (.iaload, 1) := by decide +kernel
theorem dL_law_1019 : decode cL_law 1019 = .ok (.aload_n 0, 1) := by decide +kernel
theorem dL_law_1020 : decode cL_law 1020 = .ok (.iload_n 3, 1) := by decide +kernel
theorem dL_law_1021 : decode cL_law 1021 = .ok (.iconst 4, 1) := by decide +kernel
theorem dL_law_1022 : decode cL_law 1022 = .ok (.iadd, 1) := by decide +kernel
theorem dL_law_1023 : decode cL_law 1023 = .ok (.iaload, 1) := by decide +kernel
theorem dL_law_1024 : decode cL_law 1024 = .ok (.aload_n 0, 1) := by decide +kernel
theorem dL_law_1025 : decode cL_law 1025 = .ok (.iload_n 3, 1) := by decide +kernel
theorem dL_law_1026 : decode cL_law 1026 = .ok (.iconst 5, 1) := by decide +kernel
theorem dL_law_1027 : decode cL_law 1027 = .ok (.iadd, 1) := by decide +kernel
theorem dL_law_1028 : decode cL_law 1028 = .ok (.iaload, 1) := by decide +kernel
theorem dL_law_1029 : decode cL_law 1029 = .ok (.invokevirtual 132, 3) := by decide +kernel
theorem dL_law_1032 : decode cL_law 1032 = .ok (.if_icmp .eq 189, 3) := by decide +kernel
theorem dL_law_1035 : decode cL_law 1035 = .ok (.iconst 0, 1) := by decide +kernel
theorem dL_law_1036 : decode cL_law 1036 = .ok (.ireturn, 1) := by decide +kernel
theorem dL_law_1037 : decode cL_law 1037 = .ok (.aload_n 1, 1) := by decide +kernel
theorem dL_law_1038 : decode cL_law 1038 = .ok (.aload_n 0, 1) := by decide +kernel
theorem dL_law_1039 : decode cL_law 1039 = .ok (.iload_n 3, 1) := by decide +kernel
theorem dL_law_1040 : decode cL_law 1040 = .ok (.iconst 1, 1) := by decide +kernel
theorem dL_law_1041 : decode cL_law 1041 = .ok (.iadd, 1) := by decide +kernel
theorem dL_law_1042 : decode cL_law 1042 = .ok (.iaload, 1) := by decide +kernel
theorem dL_law_1043 : decode cL_law 1043 = .ok (.invokevirtual 133, 3) := by decide +kernel
theorem dL_law_1046 : decode cL_law 1046 = .ok (.aload_n 2, 1) := by decide +kernel
theorem dL_law_1047 : decode cL_law 1047 = .ok (.aload_n 0, 1) := by decide +kernel
theorem dL_law_1048 : decode cL_law 1048 = .ok (.iload_n 3, 1) := by decide +kernel
theorem dL_law_1049 : decode cL_law 1049 = .ok (.iconst 1, 1) := by decide +kernel
theorem dL_law_1050 : decode cL_law 1050 = .ok (.iadd, 1) := by decide +kernel
theorem dL_law_1051 : decode cL_law 1051 = .ok (.iaload, 1) := by decide +kernel
theorem dL_law_1052 : decode cL_law 1052 = .ok (.invokevirtual 136, 3) := by decide +kernel
theorem dL_law_1055 : decode cL_law 1055 = .ok (.if_icmp .eq 166, 3) := by decide +kernel
theorem dL_law_1058 : decode cL_law 1058 = .ok (.iconst 0, 1) := by decide +kernel
theorem dL_law_1059 : decode cL_law 1059 = .ok (.ireturn, 1) := by decide +kernel
theorem dL_law_1060 : decode cL_law 1060 = .ok (.aload_n 1, 1) := by decide +kernel
theorem dL_law_1061 : decode cL_law 1061 = .ok (.aload_n 0, 1) := by decide +kernel
theorem dL_law_1062 : decode cL_law 1062 = .ok (.iload_n 3, 1) := by decide +kernel
theorem dL_law_1063 : decode cL_law 1063 = .ok (.iconst 1, 1) := by decide +kernel
theorem dL_law_1064 : decode cL_law 1064 = .ok (.iadd, 1) := by decide +kernel
theorem dL_law_1065 : decode cL_law 1065 = .ok (.iaload, 1) := by decide +kernel
theorem dL_law_1066 : decode cL_law 1066 = .ok (.aload_n 0, 1) := by decide +kernel
theorem dL_law_1067 : decode cL_law 1067 = .ok (.iload_n 3, 1) := by decide +kernel
theorem dL_law_1068 : decode cL_law 1068 = .ok (.iconst 2, 1) := by decide +kernel
theorem dL_law_1069 : decode cL_law 1069 = .ok (.iadd, 1) := by decide +kernel
theorem dL_law_1070 : decode cL_law 1070 = .ok (.iaload, 1) := by decide +kernel
theorem dL_law_1071 : decode cL_law 1071 = .ok (.invokevirtual 137, 3) := by decide +kernel
theorem dL_law_1074 : decode cL_law 1074 = .ok (.aload_n 2, 1) := by decide +kernel
theorem dL_law_1075 : decode cL_law 1075 = .ok (.aload_n 0, 1) := by decide +kernel
theorem dL_law_1076 : decode cL_law 1076 = .ok (.iload_n 3, 1) := by decide +kernel
theorem dL_law_1077 : decode cL_law 1077 = .ok (.iconst 1, 1) := by decide +kernel
theorem dL_law_1078 : decode cL_law 1078 = .ok (.iadd, 1) := by decide +kernel
theorem dL_law_1079 : decode cL_law 1079 = .ok (.iaload, 1) := by decide +kernel
theorem dL_law_1080 : decode cL_law 1080 = .ok (.aload_n 0, 1) := by decide +kernel
theorem dL_law_1081 : decode cL_law 1081 = .ok (.iload_n 3, 1) := by decide +kernel
theorem dL_law_1082 : decode cL_law 1082 = .ok (.iconst 2, 1) := by decide +kernel
theorem dL_law_1083 : decode cL_law 1083 = .ok (.iadd, 1) := by decide +kernel
theorem dL_law_1084 : decode cL_law 1084 = .ok (.iaload, 1) := by decide +kernel
theorem dL_law_1085 : decode cL_law 1085 = .ok (.invokevirtual 140, 3) := by decide +kernel
theorem dL_law_1088 : decode cL_law 1088 = .ok (.if_icmp .eq 133, 3) := by decide +kernel
theorem dL_law_1091 : decode cL_law 1091 = .ok (.iconst 0, 1) := by decide +kernel
theorem dL_law_1092 : decode cL_law 1092 = .ok (.ireturn, 1) := by decide +kernel
theorem dL_law_1093 : decode cL_law 1093 = .ok (.aload_n 1, 1) := by decide +kernel
theorem dL_law_1094 : decode cL_law 1094 = .ok (.aload_n 0, 1) := by decide +kernel
theorem dL_law_1095 : decode cL_law 1095 = .ok (.iload_n 3, 1) := by decide +kernel
theorem dL_law_1096 : decode cL_law 1096 = .ok (.iconst 1, 1) := by decide +kernel
theorem dL_law_1097 : decode cL_law 1097 = .ok (.iadd, 1) := by decide +kernel
theorem dL_law_1098 : decode cL_law 1098 = .ok (.iaload, 1) := by decide +kernel
theorem dL_law_1099 : decode cL_law 1099 = .ok (.aload_n 0, 1) := by decide +kernel
theorem dL_law_1100 : decode cL_law 1100 = .ok (.iload_n 3, 1) := by decide +kernel
theorem dL_law_1101 : decode cL_law 1101 = .ok (.iconst 2, 1) := by decide +kernel
theorem dL_law_1102 : decode cL_law 1102 = .ok (.iadd, 1) := by decide +kernel
theorem dL_law_1103 : decode cL_law 1103 = .ok (.iaload, 1) := by decide +kernel
theorem dL_law_1104 : decode cL_law 1104 = .ok (.aload_n 0, 1) := by decide +kernel
theorem dL_law_1105 : decode cL_law 1105 = .ok (.iload_n 3, 1) := by decide +kernel
theorem dL_law_1106 : decode cL_law 1106 = .ok (.iconst 3, 1) := by decide +kernel
theorem dL_law_1107 : decode cL_law 1107 = .ok (.iadd, 1) := by decide +kernel
theorem dL_law_1108 : decode cL_law 1108 = .ok (.iaload, 1) := by decide +kernel
theorem dL_law_1109 : decode cL_law 1109 = .ok (.invokevirtual 141, 3) := by decide +kernel
theorem dL_law_1112 : decode cL_law 1112 = .ok (.aload_n 2, 1) := by decide +kernel
theorem dL_law_1113 : decode cL_law 1113 = .ok (.aload_n 0, 1) := by decide +kernel
theorem dL_law_1114 : decode cL_law 1114 = .ok (.iload_n 3, 1) := by decide +kernel
theorem dL_law_1115 : decode cL_law 1115 = .ok (.iconst 1, 1) := by decide +kernel
theorem dL_law_1116 : decode cL_law 1116 = .ok (.iadd, 1) := by decide +kernel
theorem dL_law_1117 : decode cL_law 1117 = .ok (.iaload, 1) := by decide +kernel
theorem dL_law_1118 : decode cL_law 1118 = .ok (.aload_n 0, 1) := by decide +kernel
theorem dL_law_1119 : decode cL_law 1119 = .ok (.iload_n 3, 1) := by decide +kernel
theorem dL_law_1120 : decode cL_law 1120 = .ok (.iconst 2, 1) := by decide +kernel
theorem dL_law_1121 : decode cL_law 1121 = .ok (.iadd, 1) := by decide +kernel
theorem dL_law_1122 : decode cL_law 1122 = .ok (.iaload, 1) := by decide +kernel
theorem dL_law_1123 : decode cL_law 1123 = .ok (.aload_n 0, 1) := by decide +kernel
theorem dL_law_1124 : decode cL_law 1124 = .ok (.iload_n 3, 1) := by decide +kernel
theorem dL_law_1125 : decode cL_law 1125 = .ok (.iconst 3, 1) := by decide +kernel
theorem dL_law_1126 : decode cL_law 1126 = .ok (.iadd, 1) := by decide +kernel
theorem dL_law_1127 : decode cL_law 1127 = .ok (.iaload, 1) := by decide +kernel
theorem dL_law_1128 : decode cL_law 1128 = .ok (.invokevirtual 144, 3) := by decide +kernel
theorem dL_law_1131 : decode cL_law 1131 = .ok (.if_icmp .eq 90, 3) := by decide +kernel
theorem dL_law_1134 : decode cL_law 1134 = .ok (.iconst 0, 1) := by decide +kernel
theorem dL_law_1135 : decode cL_law 1135 = .ok (.ireturn, 1) := by decide +kernel
theorem dL_law_1136 : decode cL_law 1136 = .ok (.aload_n 1, 1) := by decide +kernel
theorem dL_law_1137 : decode cL_law 1137 = .ok (.invokevirtual 145, 3) := by decide +kernel
theorem dL_law_1140 : decode cL_law 1140 = .ok (.aload_n 2, 1) := by decide +kernel
theorem dL_law_1141 : decode cL_law 1141 = .ok (.invokevirtual 148, 3) := by decide +kernel
theorem dL_law_1144 : decode cL_law 1144 = .ok (.if_icmp .eq 77, 3) := by decide +kernel
theorem dL_law_1147 : decode cL_law 1147 = .ok (.iconst 0, 1) := by decide +kernel
theorem dL_law_1148 : decode cL_law 1148 = .ok (.ireturn, 1) := by decide +kernel
theorem dL_law_1149 : decode cL_law 1149 = .ok (.aload_n 1, 1) := by decide +kernel
theorem dL_law_1150 : decode cL_law 1150 = .ok (.invokevirtual 149, 3) := by decide +kernel
theorem dL_law_1153 : decode cL_law 1153 = .ok (.aload_n 2, 1) := by decide +kernel
theorem dL_law_1154 : decode cL_law 1154 = .ok (.invokevirtual 152, 3) := by decide +kernel
theorem dL_law_1157 : decode cL_law 1157 = .ok (.if_icmp .eq 64, 3) := by decide +kernel
theorem dL_law_1160 : decode cL_law 1160 = .ok (.iconst 0, 1) := by decide +kernel
theorem dL_law_1161 : decode cL_law 1161 = .ok (.ireturn, 1) := by decide +kernel
theorem dL_law_1162 : decode cL_law 1162 = .ok (.aload_n 1, 1) := by decide +kernel
theorem dL_law_1163 : decode cL_law 1163 = .ok (.invokevirtual 153, 3) := by decide +kernel
theorem dL_law_1166 : decode cL_law 1166 = .ok (.aload_n 2, 1) := by decide +kernel
theorem dL_law_1167 : decode cL_law 1167 = .ok (.invokevirtual 156, 3) := by decide +kernel
theorem dL_law_1170 : decode cL_law 1170 = .ok (.if_icmp .eq 51, 3) := by decide +kernel
theorem dL_law_1173 : decode cL_law 1173 = .ok (.iconst 0, 1) := by decide +kernel
theorem dL_law_1174 : decode cL_law 1174 = .ok (.ireturn, 1) := by decide +kernel
theorem dL_law_1175 : decode cL_law 1175 = .ok (.aload_n 1, 1) := by decide +kernel
theorem dL_law_1176 : decode cL_law 1176 = .ok (.aload_n 0, 1) := by decide +kernel
theorem dL_law_1177 : decode cL_law 1177 = .ok (.iload_n 3, 1) := by decide +kernel
theorem dL_law_1178 : decode cL_law 1178 = .ok (.iconst 1, 1) := by decide +kernel
theorem dL_law_1179 : decode cL_law 1179 = .ok (.iadd, 1) := by decide +kernel
theorem dL_law_1180 : decode cL_law 1180 = .ok (.iaload, 1) := by decide +kernel
theorem dL_law_1181 : decode cL_law 1181 = .ok (.invokevirtual 157, 3) := by decide +kernel
theorem dL_law_1184 : decode cL_law 1184 = .ok (.aload_n 2, 1) := by decide +kernel
theorem dL_law_1185 : decode cL_law 1185 = .ok (.aload_n 0, 1) := by decide +kernel
theorem dL_law_1186 : decode cL_law 1186 = .ok (.iload_n 3, 1) := by decide +kernel
theorem dL_law_1187 : decode cL_law 1187 = .ok (.iconst 1, 1) := by decide +kernel
theorem dL_law_1188 : decode cL_law 1188 = .ok (.iadd, 1) := by decide +kernel
theorem dL_law_1189 : decode cL_law 1189 = .ok (.iaload, 1) := by decide +kernel
theorem dL_law_1190 : decode cL_law 1190 = .ok (.invokevirtual 160, 3) := by decide +kernel
theorem dL_law_1193 : decode cL_law 1193 = .ok (.if_icmp .eq 28, 3) := by decide +kernel
theorem dL_law_1196 : decode cL_law 1196 = .ok (.iconst 0, 1) := by decide +kernel
theorem dL_law_1197 : decode cL_law 1197 = .ok (.ireturn, 1) := by decide +kernel
theorem dL_law_1198 : decode cL_law 1198 = .ok (.aload_n 1, 1) := by decide +kernel
theorem dL_law_1199 : decode cL_law 1199 = .ok (.aload_n 0, 1) := by decide +kernel
theorem dL_law_1200 : decode cL_law 1200 = .ok (.iload_n 3, 1) := by decide +kernel
theorem dL_law_1201 : decode cL_law 1201 = .ok (.iconst 1, 1) := by decide +kernel
theorem dL_law_1202 : decode cL_law 1202 = .ok (.iadd, 1) := by decide +kernel
theorem dL_law_1203 : decode cL_law 1203 = .ok (.iaload, 1) := by decide +kernel
theorem dL_law_1204 : decode cL_law 1204 = .ok (.invokevirtual 161, 3) := by decide +kernel
theorem dL_law_1207 : decode cL_law 1207 = .ok (.aload_n 2, 1) := by decide +kernel
theorem dL_law_1208 : decode cL_law 1208 = .ok (.aload_n 0, 1) := by decide +kernel
theorem dL_law_1209 : decode cL_law 1209 = .ok (.iload_n 3, 1) := by decide +kernel
theorem dL_law_1210 : decode cL_law 1210 = .ok (.iconst 1, 1) := by decide +kernel
theorem dL_law_1211 : decode cL_law 1211 = .ok (.iadd, 1) := by decide +kernel
theorem dL_law_1212 : decode cL_law 1212 = .ok (.iaload, 1) := by decide +kernel
theorem dL_law_1213 : decode cL_law 1213 = .ok (.invokevirtual 164, 3) := by decide +kernel
theorem dL_law_1216 : decode cL_law 1216 = .ok (.if_icmp .eq 5, 3) := by decide +kernel
theorem dL_law_1219 : decode cL_law 1219 = .ok (.iconst 0, 1) := by decide +kernel
theorem dL_law_1220 : decode cL_law 1220 = .ok (.ireturn, 1) := by decide +kernel
theorem dL_law_1221 : decode cL_law 1221 = .ok (.iinc 3 6, 3) := by decide +kernel
theorem dL_law_1224 : decode cL_law 1224 = .ok (.goto (-1206), 3) := by decide +kernel
theorem dL_law_1227 : decode cL_law 1227 = .ok (.iconst 1, 1) := by decide +kernel
theorem dL_law_1228 : decode cL_law 1228 = .ok (.ireturn, 1) := by decide +kernel
