set_option maxRecDepth 20000 in
theorem ggL_law_X7_init : GoodIn wsL_law wsX7_init := goodIn_r _ [8, 9, 10, 11, 12, 13, 14, 15, 16, 17, 18, 19, 20, 21, 22, 23, 24, 25, 26, 27, 28, 29, 30, 31, 32, 33, 34, 35, 36, 37, 38, 39, 40, 41, 42, 43, 44, 45, 46, 47, 48, 49, 50, 51, 52, 53, 54, 55, 56, 57, 58, 59, 60, 61, 62, 63, 64, 65, 66, 67, 68, 69, 70, 71, 72, 73, 74, 75, 76, 77, 78, 79, 80, 81, 82, 83, 84, 85, 86, 87, 88, 89, 90, 91, 92, 93, 94, 95, 96, 97, 98, 99, 100, 101, 102, 955, 956, 957, 911, 912, 913, 914, 915, 916, 917, 918, 919, 920, 958, 959, 960, 961, 962, 963, 964, 965, 966, 967, 968, 969, 970, 971, 972, 973, 974, 975, 976, 977, 978, 979, 980, 981] (by decide +kernel) (by decide +kernel)
set_option maxRecDepth 20000 in
theorem gL_law_X7_init : GoodIn wsL_law (wsX7_init) := ggL_law_X7_init
set_option maxRecDepth 20000 in
theorem ggL_law_X8_init : GoodIn wsL_law wsX8_init := goodIn_r _ [105, 106, 10, 11, 40, 107, 108, 109, 48, 110, 111, 112, 113, 114, 115, 116, 117, 118, 119, 120, 121, 122, 123, 75, 124, 125, 126, 127, 128, 129, 130, 131, 132, 921, 922, 923, 924, 925, 926, 927, 928, 929, 930, 931, 932, 933, 934, 935, 936, 937, 938, 939, 940, 941, 942, 943, 944, 945, 946, 947, 948, 949, 950, 951, 952, 953, 954] (by decide +kernel) (by decide +kernel)
set_option maxRecDepth 20000 in
theorem gL_law_X8_init : GoodIn wsL_law (wsX8_init) := ggL_law_X8_init
set_option maxRecDepth 20000 in
theorem ggL_law_X7_stuff : GoodIn wsL_law wsX7_stuff := goodIn_r _ [136, 15, 137, 138, 2, 139, 140, 141, 142, 143, 144, 145, 146, 41, 42, 147, 148, 149, 14, 150, 49, 50, 911, 912, 913, 914, 915, 916, 917, 918, 919, 920, 955, 956, 957] (by decide +kernel) (by decide +kernel)
set_option maxRecDepth 20000 in
theorem gL_law_X7_stuff : GoodIn wsL_law (wsV RL 13 RX7 yX7_stuff wsX7_stuff) := goodIn_app (goodIn_of _ (by decide +kernel)) ggL_law_X7_stuff
set_option maxRecDepth 20000 in
theorem ggL_law_X8_stuff : GoodIn wsL_law wsX8_stuff := goodIn_r _ [154, 108, 110, 155, 156, 5, 157, 158, 159, 160, 161, 162, 163, 164, 165, 107, 921, 922, 923, 924, 925, 926, 927, 928, 929, 930, 931, 932, 933, 934, 935, 936, 937, 938, 939, 940, 941, 942, 943, 944, 945, 946, 947, 948, 949, 950, 951, 952, 953, 954] (by decide +kernel) (by decide +kernel)
set_option maxRecDepth 20000 in
theorem gL_law_X8_stuff : GoodIn wsL_law (wsV RL 17 RX8 yX8_stuff wsX8_stuff) := goodIn_app (goodIn_of _ (by decide +kernel)) ggL_law_X8_stuff
set_option maxRecDepth 20000 in
theorem ggL_law_X7_lay : GoodIn wsL_law wsX7_lay := goodIn_r _ [169, 15, 170, 171, 172, 2, 173, 137, 138, 139, 140, 141, 142, 174, 175, 176, 14, 177, 50, 143, 144, 145, 146, 41, 42, 178, 179, 180, 181, 182, 183, 184, 185, 49, 911, 912, 913, 914, 915, 916, 917, 918, 919, 920, 955, 956, 957] (by decide +kernel) (by decide +kernel)
set_option maxRecDepth 20000 in
theorem gL_law_X7_lay : GoodIn wsL_law (wsV RL 18 RX7 yX7_lay wsX7_lay) := goodIn_app (goodIn_of _ (by decide +kernel)) ggL_law_X7_lay
set_option maxRecDepth 20000 in
theorem ggL_law_X8_lay : GoodIn wsL_law wsX8_lay := goodIn_r _ [189, 108, 110, 155, 156, 5, 157, 158, 159, 160, 161, 162, 163, 164, 165, 107, 921, 922, 923, 924, 925, 926, 927, 928, 929, 930, 931, 932, 933, 934, 935, 936, 937, 938, 939, 940, 941, 942, 943, 944, 945, 946, 947, 948, 949, 950, 951, 952, 953, 954] (by decide +kernel) (by decide +kernel)
set_option maxRecDepth 20000 in
theorem gL_law_X8_lay : GoodIn wsL_law (wsV RL 22 RX8 yX8_lay wsX8_lay) := goodIn_app (goodIn_of _ (by decide +kernel)) ggL_law_X8_lay
set_option maxRecDepth 20000 in
theorem ggL_law_X7_tear : GoodIn wsL_law wsX7_tear := goodIn_r _ [193, 15, 170, 171, 172, 2, 173, 137, 138, 139, 140, 141, 142, 174, 175, 176, 14, 177, 50, 143, 144, 145, 146, 41, 42, 194, 195, 196, 197, 911, 912, 913, 914, 915, 916, 917, 918, 919, 920, 955, 956, 957] (by decide +kernel) (by decide +kernel)
set_option maxRecDepth 20000 in
theorem gL_law_X7_tear : GoodIn wsL_law (wsV RL 23 RX7 yX7_tear wsX7_tear) := goodIn_app (goodIn_of _ (by decide +kernel)) ggL_law_X7_tear
set_option maxRecDepth 20000 in
theorem ggL_law_X8_tear : GoodIn wsL_law wsX8_tear := goodIn_r _ [201, 108, 155, 156, 5, 157, 158, 159, 160, 161, 162, 163, 164, 165, 107, 921, 922, 923, 924, 925, 926, 927, 928, 929, 930, 931, 932, 933, 934, 935, 936, 937, 938, 939, 940, 941, 942, 943, 944, 945, 946, 947, 948, 949, 950, 951, 952, 953, 954] (by decide +kernel) (by decide +kernel)
set_option maxRecDepth 20000 in
theorem gL_law_X8_tear : GoodIn wsL_law (wsV RL 27 RX8 yX8_tear wsX8_tear) := goodIn_app (goodIn_of _ (by decide +kernel)) ggL_law_X8_tear
set_option maxRecDepth 20000 in
theorem ggL_law_X7_copy : GoodIn wsL_law wsX7_copy := goodIn_r _ [205, 15, 137, 138, 2, 139, 140, 141, 142, 174, 175, 176, 14, 177, 50, 143, 144, 145, 146, 41, 42, 178, 179, 180, 181, 206, 207, 208, 209, 49, 210, 211, 212, 213, 911, 912, 913, 914, 915, 916, 917, 918, 919, 920, 955, 956, 957] (by decide +kernel) (by decide +kernel)
set_option maxRecDepth 20000 in
theorem gL_law_X7_copy : GoodIn wsL_law (wsV RL 28 RX7 yX7_copy wsX7_copy) := goodIn_app (goodIn_of _ (by decide +kernel)) ggL_law_X7_copy
set_option maxRecDepth 20000 in
theorem ggL_law_X8_copy : GoodIn wsL_law wsX8_copy := goodIn_r _ [217, 108, 111, 110, 155, 156, 5, 157, 158, 159, 160, 161, 162, 163, 164, 165, 107, 921, 922, 923, 924, 925, 926, 927, 928, 929, 930, 931, 932, 933, 934, 935, 936, 937, 938, 939, 940, 941, 942, 943, 944, 945, 946, 947, 948, 949, 950, 951, 952, 953, 954] (by decide +kernel) (by decide +kernel)
set_option maxRecDepth 20000 in
theorem gL_law_X8_copy : GoodIn wsL_law (wsV RL 32 RX8 yX8_copy wsX8_copy) := goodIn_app (goodIn_of _ (by decide +kernel)) ggL_law_X8_copy
set_option maxRecDepth 20000 in
theorem ggL_law_X7_weigh : GoodIn wsL_law wsX7_weigh := goodIn_r _ [221, 15, 137, 138, 2, 139, 140, 141, 142, 222, 223, 224, 14, 225, 51, 911, 912, 913, 914, 915, 916, 917, 918, 919, 920, 955, 956, 957] (by decide +kernel) (by decide +kernel)
set_option maxRecDepth 20000 in
theorem gL_law_X7_weigh : GoodIn wsL_law (wsV RL 33 RX7 yX7_weigh wsX7_weigh) := goodIn_app (goodIn_of _ (by decide +kernel)) ggL_law_X7_weigh
set_option maxRecDepth 20000 in
theorem ggL_law_X8_weigh : GoodIn wsL_law wsX8_weigh := goodIn_r _ [229, 109, 155, 156, 5, 157, 158, 159, 160, 921, 922, 923, 924, 925, 926, 927, 928, 929, 930, 931, 932, 933, 934, 935, 936, 937, 938, 939, 940, 941, 942, 943, 944, 945, 946, 947, 948, 949, 950, 951, 952, 953, 954] (by decide +kernel) (by decide +kernel)
set_option maxRecDepth 20000 in
theorem gL_law_X8_weigh : GoodIn wsL_law (wsV RL 36 RX8 yX8_weigh wsX8_weigh) := goodIn_app (goodIn_of _ (by decide +kernel)) ggL_law_X8_weigh
set_option maxRecDepth 20000 in
theorem ggL_law_X7_mean : GoodIn wsL_law wsX7_mean := goodIn_r _ [233, 15, 170, 171, 172, 2, 173, 137, 138, 139, 140, 141, 142, 174, 175, 176, 14, 177, 50, 143, 144, 145, 146, 41, 42, 234, 235, 236, 237, 238, 239, 240, 241, 49, 911, 912, 913, 914, 915, 916, 917, 918, 919, 920, 955, 956, 957] (by decide +kernel) (by decide +kernel)
set_option maxRecDepth 20000 in
theorem gL_law_X7_mean : GoodIn wsL_law (wsV RL 37 RX7 yX7_mean wsX7_mean) := goodIn_app (goodIn_of _ (by decide +kernel)) ggL_law_X7_mean
set_option maxRecDepth 20000 in
theorem ggL_law_X8_mean : GoodIn wsL_law wsX8_mean := goodIn_r _ [245, 108, 110, 155, 156, 5, 157, 158, 159, 160, 161, 162, 163, 164, 165, 107, 921, 922, 923, 924, 925, 926, 927, 928, 929, 930, 931, 932, 933, 934, 935, 936, 937, 938, 939, 940, 941, 942, 943, 944, 945, 946, 947, 948, 949, 950, 951, 952, 953, 954] (by decide +kernel) (by decide +kernel)
set_option maxRecDepth 20000 in
theorem gL_law_X8_mean : GoodIn wsL_law (wsV RL 40 RX8 yX8_mean wsX8_mean) := goodIn_app (goodIn_of _ (by decide +kernel)) ggL_law_X8_mean
set_option maxRecDepth 20000 in
theorem ggL_law_X7_leg : GoodIn wsL_law wsX7_leg := goodIn_r _ [249, 19, 250, 251, 2, 252, 140, 141, 142, 137, 138, 139, 253, 254, 255, 18, 256, 64, 257, 258, 259, 260, 60, 61, 62, 65, 911, 912, 913, 914, 915, 916, 917, 918, 919, 920, 958, 959, 960, 961, 962, 963, 964] (by decide +kernel) (by decide +kernel)
set_option maxRecDepth 20000 in
theorem gL_law_X7_leg : GoodIn wsL_law (wsV RL 41 RX7 yX7_leg wsX7_leg) := goodIn_app (goodIn_of _ (by decide +kernel)) ggL_law_X7_leg
set_option maxRecDepth 20000 in
theorem ggL_law_X8_leg : GoodIn wsL_law wsX8_leg := goodIn_r _ [264, 265, 112, 113, 114, 158, 159, 5, 160, 155, 156, 157, 266, 267, 268, 269, 270, 115, 116, 117, 118, 119, 271, 272, 273, 921, 922, 923, 924, 925, 926, 927, 928, 929, 930, 931, 932, 933, 934, 935, 936, 937, 938, 939, 940, 941, 942, 943, 944, 945, 946, 947, 948, 949, 950, 951, 952, 953, 954] (by decide +kernel) (by decide +kernel)
set_option maxRecDepth 20000 in
theorem gL_law_X8_leg : GoodIn wsL_law (wsV RL 44 RX8 yX8_leg wsX8_leg) := goodIn_app (goodIn_of _ (by decide +kernel)) ggL_law_X8_leg
set_option maxRecDepth 20000 in
theorem ggL_law_X7_cut : GoodIn wsL_law wsX7_cut := goodIn_r _ [277, 19, 253, 254, 255, 18, 256, 64, 278, 279, 280, 281, 65, 61, 911, 912, 913, 914, 915, 916, 917, 918, 919, 920, 958, 959, 960, 961, 962, 963, 964] (by decide +kernel) (by decide +kernel)
set_option maxRecDepth 20000 in
theorem gL_law_X7_cut : GoodIn wsL_law (wsV RL 45 RX7 yX7_cut wsX7_cut) := goodIn_app (goodIn_of _ (by decide +kernel)) ggL_law_X7_cut
set_option maxRecDepth 20000 in
theorem ggL_law_X8_cut : GoodIn wsL_law wsX8_cut := goodIn_r _ [285, 265, 266, 267, 268, 5, 269, 270, 113, 112, 115, 116, 114, 117, 118, 119, 271, 272, 273, 921, 922, 923, 924, 925, 926, 927, 928, 929, 930, 931, 932, 933, 934, 935, 936, 937, 938, 939, 940, 941, 942, 943, 944, 945, 946, 947, 948, 949, 950, 951, 952, 953, 954] (by decide +kernel) (by decide +kernel)
set_option maxRecDepth 20000 in
theorem gL_law_X8_cut : GoodIn wsL_law (wsV RL 49 RX8 yX8_cut wsX8_cut) := goodIn_app (goodIn_of _ (by decide +kernel)) ggL_law_X8_cut
set_option maxRecDepth 20000 in
theorem ggL_law_X7_where : GoodIn wsL_law wsX7_where := goodIn_r _ [289, 19, 43, 290, 291, 292, 18, 293, 65, 140, 141, 2, 142, 294, 295, 296, 297, 298, 299, 300, 64, 60, 61, 301, 302, 303, 304, 305, 306, 307, 308, 309, 310, 311, 312, 313, 314, 315, 316, 317, 911, 912, 913, 914, 915, 916, 917, 918, 919, 920, 958, 959, 960, 961, 962, 963, 964] (by decide +kernel) (by decide +kernel)
set_option maxRecDepth 20000 in
theorem gL_law_X7_where : GoodIn wsL_law (wsV RL 50 RX7 yX7_where wsX7_where) := goodIn_app (goodIn_of _ (by decide +kernel)) ggL_law_X7_where
set_option maxRecDepth 20000 in
theorem ggL_law_X8_where : GoodIn wsL_law wsX8_where := goodIn_r _ [321, 270, 117, 118, 119, 158, 159, 5, 160, 322, 323, 324, 325, 326, 921, 922, 923, 924, 925, 926, 927, 928, 929, 930, 931, 932, 933, 934, 935, 936, 937, 938, 939, 940, 941, 942, 943, 944, 945, 946, 947, 948, 949, 950, 951, 952, 953, 954] (by decide +kernel) (by decide +kernel)
set_option maxRecDepth 20000 in
theorem gL_law_X8_where : GoodIn wsL_law (wsV RL 53 RX8 yX8_where wsX8_where) := goodIn_app (goodIn_of _ (by decide +kernel)) ggL_law_X8_where
set_option maxRecDepth 20000 in
theorem ggL_law_X7_grown : GoodIn wsL_law wsX7_grown := goodIn_r _ [330, 19, 43, 331, 332, 2, 333, 140, 141, 142, 294, 295, 296, 290, 291, 292, 18, 293, 65, 334, 335, 336, 337, 64, 60, 66, 62, 61, 301, 302, 303, 304, 305, 306, 338, 339, 340, 14, 341, 50, 49, 307, 308, 309, 310, 311, 312, 313, 314, 315, 316, 317, 911, 912, 913, 914, 915, 916, 917, 918, 919, 920, 958, 959, 960, 961, 962, 963, 964, 955, 956, 957] (by decide +kernel) (by decide +kernel)
set_option maxRecDepth 20000 in
theorem gL_law_X7_grown : GoodIn wsL_law (wsV RL 54 RX7 yX7_grown wsX7_grown) := goodIn_app (goodIn_of _ (by decide +kernel)) ggL_law_X7_grown
set_option maxRecDepth 20000 in
theorem ggL_law_X8_grown : GoodIn wsL_law wsX8_grown := goodIn_r _ [345, 270, 346, 347, 5, 348, 158, 159, 160, 349, 350, 351, 352, 115, 116, 271, 272, 273, 353, 354, 355, 356, 108, 110, 322, 323, 324, 325, 326, 921, 922, 923, 924, 925, 926, 927, 928, 929, 930, 931, 932, 933, 934, 935, 936, 937, 938, 939, 940, 941, 942, 943, 944, 945, 946, 947, 948, 949, 950, 951, 952, 953, 954] (by decide +kernel) (by decide +kernel)
set_option maxRecDepth 20000 in
theorem gL_law_X8_grown : GoodIn wsL_law (wsV RL 57 RX8 yX8_grown wsX8_grown) := goodIn_app (goodIn_of _ (by decide +kernel)) ggL_law_X8_grown
set_option maxRecDepth 20000 in
theorem ggL_law_X7_move : GoodIn wsL_law wsX7_move := goodIn_r _ [360, 19, 43, 290, 291, 292, 18, 293, 65, 140, 141, 2, 142, 331, 332, 333, 334, 335, 336, 337, 64, 60, 66, 62, 61, 301, 302, 303, 304, 305, 306, 338, 339, 340, 14, 341, 50, 49, 307, 308, 309, 310, 311, 312, 313, 314, 315, 316, 317, 911, 912, 913, 914, 915, 916, 917, 918, 919, 920, 958, 959, 960, 961, 962, 963, 964, 955, 956, 957] (by decide +kernel) (by decide +kernel)
set_option maxRecDepth 20000 in
theorem gL_law_X7_move : GoodIn wsL_law (wsV RL 58 RX7 yX7_move wsX7_move) := goodIn_app (goodIn_of _ (by decide +kernel)) ggL_law_X7_move
set_option maxRecDepth 20000 in
theorem ggL_law_X8_move : GoodIn wsL_law wsX8_move := goodIn_r _ [364, 270, 158, 159, 5, 160, 346, 347, 348, 349, 350, 351, 352, 115, 116, 271, 272, 273, 353, 354, 355, 356, 108, 110, 322, 323, 324, 325, 326, 921, 922, 923, 924, 925, 926, 927, 928, 929, 930, 931, 932, 933, 934, 935, 936, 937, 938, 939, 940, 941, 942, 943, 944, 945, 946, 947, 948, 949, 950, 951, 952, 953, 954] (by decide +kernel) (by decide +kernel)
set_option maxRecDepth 20000 in
theorem gL_law_X8_move : GoodIn wsL_law (wsV RL 61 RX8 yX8_move wsX8_move) := goodIn_app (goodIn_of _ (by decide +kernel)) ggL_law_X8_move
set_option maxRecDepth 20000 in
theorem ggL_law_X7_soft : GoodIn wsL_law wsX7_soft := goodIn_r _ [368, 19, 43, 331, 332, 2, 333, 140, 141, 142, 369, 370, 371, 253, 254, 255, 18, 256, 64, 372, 373, 374, 375, 65, 376, 335, 336, 337, 60, 66, 62, 61, 301, 302, 303, 304, 305, 306, 338, 339, 340, 14, 341, 50, 49, 307, 308, 309, 310, 311, 312, 313, 314, 315, 316, 317, 377, 298, 299, 300, 378, 379, 380, 911, 912, 913, 914, 915, 916, 917, 918, 919, 920, 958, 959, 960, 961, 962, 963, 964, 955, 956, 957] (by decide +kernel) (by decide +kernel)
set_option maxRecDepth 20000 in
theorem gL_law_X7_soft : GoodIn wsL_law (wsV RL 62 RX7 yX7_soft wsX7_soft) := goodIn_app (goodIn_of _ (by decide +kernel)) ggL_law_X7_soft
set_option maxRecDepth 20000 in
theorem ggL_law_X8_soft : GoodIn wsL_law wsX8_soft := goodIn_r _ [384, 265, 346, 347, 5, 348, 158, 159, 160, 385, 386, 387, 388, 117, 270, 118, 119, 389, 390, 391, 392, 393, 394, 395, 349, 350, 351, 352, 115, 116, 271, 272, 273, 353, 354, 355, 356, 108, 110, 322, 323, 324, 325, 326, 921, 922, 923, 924, 925, 926, 927, 928, 929, 930, 931, 932, 933, 934, 935, 936, 937, 938, 939, 940, 941, 942, 943, 944, 945, 946, 947, 948, 949, 950, 951, 952, 953, 954] (by decide +kernel) (by decide +kernel)
set_option maxRecDepth 20000 in
theorem gL_law_X8_soft : GoodIn wsL_law (wsV RL 65 RX8 yX8_soft wsX8_soft) := goodIn_app (goodIn_of _ (by decide +kernel)) ggL_law_X8_soft
set_option maxRecDepth 20000 in
theorem ggL_law_X7_loop : GoodIn wsL_law wsX7_loop := goodIn_r _ [399, 19, 253, 254, 255, 18, 256, 64, 140, 141, 2, 142, 250, 251, 252, 331, 332, 333, 369, 370, 371, 400, 401, 402, 403, 60, 301, 302, 303, 404, 405, 406, 407, 61, 408, 409, 410, 411, 412, 373, 374, 375, 65, 376, 335, 336, 337, 66, 62, 304, 305, 306, 338, 339, 340, 14, 341, 50, 49, 307, 308, 309, 310, 311, 312, 313, 314, 315, 316, 317, 377, 298, 299, 300, 378, 379, 380, 413, 414, 415, 416, 417, 418, 419, 420, 421, 63, 422, 423, 424, 425, 426, 427, 428, 429, 911, 912, 913, 914, 915, 916, 917, 918, 919, 920, 958, 959, 960, 961, 962, 963, 964, 955, 956, 957] (by decide +kernel) (by decide +kernel)
set_option maxRecDepth 20000 in
theorem gL_law_X7_loop : GoodIn wsL_law (wsV RL 66 RX7 yX7_loop wsX7_loop) := goodIn_app (goodIn_of _ (by decide +kernel)) ggL_law_X7_loop
set_option maxRecDepth 20000 in
theorem ggL_law_X8_loop : GoodIn wsL_law wsX8_loop := goodIn_r _ [433, 265, 112, 113, 158, 159, 5, 160, 346, 347, 348, 434, 435, 436, 437, 385, 386, 387, 388, 117, 270, 118, 119, 389, 390, 391, 392, 393, 394, 395, 349, 350, 351, 352, 115, 116, 271, 272, 273, 353, 354, 355, 356, 108, 110, 438, 439, 440, 441, 442, 443, 444, 445, 446, 447, 448, 449, 921, 922, 923, 924, 925, 926, 927, 928, 929, 930, 931, 932, 933, 934, 935, 936, 937, 938, 939, 940, 941, 942, 943, 944, 945, 946, 947, 948, 949, 950, 951, 952, 953, 954] (by decide +kernel) (by decide +kernel)
set_option maxRecDepth 20000 in
theorem gL_law_X8_loop : GoodIn wsL_law (wsV RL 70 RX8 yX8_loop wsX8_loop) := goodIn_app (goodIn_of _ (by decide +kernel)) ggL_law_X8_loop
set_option maxRecDepth 20000 in
theorem ggL_law_X7_bestLoop : GoodIn wsL_law wsX7_bestLoop := goodIn_r _ [453, 19, 43, 331, 332, 2, 333, 140, 141, 142, 369, 370, 371, 253, 254, 255, 18, 256, 64, 408, 409, 410, 411, 412, 373, 374, 375, 65, 376, 335, 336, 337, 60, 66, 62, 61, 301, 302, 303, 304, 305, 306, 338, 339, 340, 14, 341, 50, 49, 307, 308, 309, 310, 311, 312, 313, 314, 315, 316, 317, 377, 298, 299, 300, 378, 379, 380, 413, 414, 415, 416, 417, 401, 402, 403, 418, 419, 420, 421, 63, 422, 423, 424, 425, 426, 427, 428, 429, 911, 912, 913, 914, 915, 916, 917, 918, 919, 920, 958, 959, 960, 961, 962, 963, 964, 955, 956, 957] (by decide +kernel) (by decide +kernel)
set_option maxRecDepth 20000 in
theorem gL_law_X7_bestLoop : GoodIn wsL_law (wsV RL 71 RX7 yX7_bestLoop wsX7_bestLoop) := goodIn_app (goodIn_of _ (by decide +kernel)) ggL_law_X7_bestLoop
set_option maxRecDepth 20000 in
theorem ggL_law_X8_bestLoop : GoodIn wsL_law wsX8_bestLoop := goodIn_r _ [457, 265, 112, 113, 346, 347, 5, 348, 158, 159, 160, 434, 435, 436, 437, 385, 386, 387, 388, 117, 270, 118, 119, 389, 390, 391, 392, 393, 394, 395, 349, 350, 351, 352, 115, 116, 271, 272, 273, 353, 354, 355, 356, 108, 110, 438, 439, 440, 441, 442, 443, 444, 445, 446, 447, 448, 449, 322, 323, 324, 325, 326, 921, 922, 923, 924, 925, 926, 927, 928, 929, 930, 931, 932, 933, 934, 935, 936, 937, 938, 939, 940, 941, 942, 943, 944, 945, 946, 947, 948, 949, 950, 951, 952, 953, 954] (by decide +kernel) (by decide +kernel)
set_option maxRecDepth 20000 in
theorem gL_law_X8_bestLoop : GoodIn wsL_law (wsV RL 74 RX8 yX8_bestLoop wsX8_bestLoop) := goodIn_app (goodIn_of _ (by decide +kernel)) ggL_law_X8_bestLoop
set_option maxRecDepth 20000 in
theorem ggL_law_X7_rest : GoodIn wsL_law wsX7_rest := goodIn_r _ [461, 19, 23, 462, 463, 2, 464, 140, 141, 142, 290, 291, 292, 18, 293, 65, 465, 466, 467, 22, 468, 77, 72, 469, 470, 471, 472, 71, 473, 474, 475, 476, 477, 478, 479, 480, 481, 482, 483, 73, 74, 911, 912, 913, 914, 915, 916, 917, 918, 919, 920, 958, 959, 960, 961, 962, 963, 964, 965, 966, 967, 968, 969, 970, 971] (by decide +kernel) (by decide +kernel)
set_option maxRecDepth 20000 in
theorem gL_law_X7_rest : GoodIn wsL_law (wsV RL 75 RX7 yX7_rest wsX7_rest) := goodIn_app (goodIn_of _ (by decide +kernel)) ggL_law_X7_rest
set_option maxRecDepth 20000 in
theorem ggL_law_X8_rest : GoodIn wsL_law wsX8_rest := goodIn_r _ [487, 270, 488, 124, 121, 120, 122, 123, 158, 159, 5, 160, 921, 922, 923, 924, 925, 926, 927, 928, 929, 930, 931, 932, 933, 934, 935, 936, 937, 938, 939, 940, 941, 942, 943, 944, 945, 946, 947, 948, 949, 950, 951, 952, 953, 954] (by decide +kernel) (by decide +kernel)
set_option maxRecDepth 20000 in
theorem gL_law_X8_rest : GoodIn wsL_law (wsV RL 78 RX8 yX8_rest wsX8_rest) := goodIn_app (goodIn_of _ (by decide +kernel)) ggL_law_X8_rest
set_option maxRecDepth 20000 in
theorem ggL_law_X7_drop : GoodIn wsL_law wsX7_drop := goodIn_r _ [492, 23, 493, 494, 495, 2, 496, 476, 477, 478, 22, 479, 77, 140, 141, 142, 497, 470, 471, 472, 71, 143, 144, 145, 146, 41, 42, 498, 499, 500, 501, 911, 912, 913, 914, 915, 916, 917, 918, 919, 920, 965, 966, 967, 968, 969, 970, 971] (by decide +kernel) (by decide +kernel)
set_option maxRecDepth 20000 in
theorem gL_law_X7_drop : GoodIn wsL_law (wsV RL 79 RX7 yX7_drop wsX7_drop) := goodIn_app (goodIn_of _ (by decide +kernel)) ggL_law_X7_drop
set_option maxRecDepth 20000 in
theorem ggL_law_X8_drop : GoodIn wsL_law wsX8_drop := goodIn_r _ [505, 124, 506, 507, 508, 5, 509, 488, 158, 159, 160, 161, 162, 163, 164, 165, 107, 921, 922, 923, 924, 925, 926, 927, 928, 929, 930, 931, 932, 933, 934, 935, 936, 937, 938, 939, 940, 941, 942, 943, 944, 945, 946, 947, 948, 949, 950, 951, 952, 953, 954] (by decide +kernel) (by decide +kernel)
set_option maxRecDepth 20000 in
theorem gL_law_X8_drop : GoodIn wsL_law (wsV RL 82 RX8 yX8_drop wsX8_drop) := goodIn_app (goodIn_of _ (by decide +kernel)) ggL_law_X8_drop
set_option maxRecDepth 20000 in
theorem ggL_law_X7_told : GoodIn wsL_law wsX7_told := goodIn_r _ [513, 23, 140, 141, 2, 142, 493, 494, 495, 496, 476, 477, 478, 22, 479, 77, 497, 470, 471, 472, 71, 143, 144, 145, 146, 41, 42, 514, 515, 516, 517, 72, 73, 518, 519, 520, 521, 78, 469, 522, 291, 292, 18, 293, 65, 911, 912, 913, 914, 915, 916, 917, 918, 919, 920, 965, 966, 967, 968, 969, 970, 971, 958, 959, 960, 961, 962, 963, 964] (by decide +kernel) (by decide +kernel)
set_option maxRecDepth 20000 in
theorem gL_law_X7_told : GoodIn wsL_law (wsV RL 83 RX7 yX7_told wsX7_told) := goodIn_app (goodIn_of _ (by decide +kernel)) ggL_law_X7_told
set_option maxRecDepth 20000 in
theorem ggL_law_X8_told : GoodIn wsL_law wsX8_told := goodIn_r _ [526, 158, 159, 5, 160, 506, 507, 508, 509, 488, 124, 161, 162, 163, 164, 165, 107, 527, 528, 529, 530, 120, 121, 122, 531, 532, 533, 534, 270, 921, 922, 923, 924, 925, 926, 927, 928, 929, 930, 931, 932, 933, 934, 935, 936, 937, 938, 939, 940, 941, 942, 943, 944, 945, 946, 947, 948, 949, 950, 951, 952, 953, 954] (by decide +kernel) (by decide +kernel)
set_option maxRecDepth 20000 in
theorem gL_law_X8_told : GoodIn wsL_law (wsV RL 86 RX8 yX8_told wsX8_told) := goodIn_app (goodIn_of _ (by decide +kernel)) ggL_law_X8_told
set_option maxRecDepth 20000 in
theorem ggL_law_X7_is : GoodIn wsL_law wsX7_is := goodIn_r _ [538, 23, 462, 463, 2, 464, 140, 141, 142, 493, 494, 495, 496, 476, 477, 478, 22, 479, 77, 497, 470, 471, 472, 71, 143, 144, 145, 146, 41, 42, 539, 540, 541, 542, 911, 912, 913, 914, 915, 916, 917, 918, 919, 920, 965, 966, 967, 968, 969, 970, 971] (by decide +kernel) (by decide +kernel)
set_option maxRecDepth 20000 in
theorem gL_law_X7_is : GoodIn wsL_law (wsV RL 87 RX7 yX7_is wsX7_is) := goodIn_app (goodIn_of _ (by decide +kernel)) ggL_law_X7_is
set_option maxRecDepth 20000 in
theorem ggL_law_X8_is : GoodIn wsL_law wsX8_is := goodIn_r _ [546, 120, 158, 159, 5, 160, 506, 507, 508, 509, 488, 124, 161, 162, 163, 164, 165, 107, 921, 922, 923, 924, 925, 926, 927, 928, 929, 930, 931, 932, 933, 934, 935, 936, 937, 938, 939, 940, 941, 942, 943, 944, 945, 946, 947, 948, 949, 950, 951, 952, 953, 954] (by decide +kernel) (by decide +kernel)
set_option maxRecDepth 20000 in
theorem gL_law_X8_is : GoodIn wsL_law (wsV RL 90 RX8 yX8_is wsX8_is) := goodIn_app (goodIn_of _ (by decide +kernel)) ggL_law_X8_is
set_option maxRecDepth 20000 in
theorem ggL_law_X7_lifts : GoodIn wsL_law wsX7_lifts := goodIn_r _ [550, 23, 331, 332, 2, 333, 140, 141, 142, 493, 494, 495, 496, 476, 477, 478, 22, 479, 77, 497, 470, 471, 472, 71, 143, 144, 145, 146, 41, 42, 551, 552, 553, 554, 78, 72, 518, 519, 520, 521, 469, 522, 291, 292, 18, 293, 65, 555, 335, 336, 337, 64, 60, 66, 62, 61, 301, 302, 303, 304, 305, 306, 338, 339, 340, 14, 341, 50, 49, 307, 308, 309, 310, 311, 312, 313, 314, 315, 316, 317, 911, 912, 913, 914, 915, 916, 917, 918, 919, 920, 965, 966, 967, 968, 969, 970, 971, 958, 959, 960, 961, 962, 963, 964, 955, 956, 957] (by decide +kernel) (by decide +kernel)
set_option maxRecDepth 20000 in
theorem gL_law_X7_lifts : GoodIn wsL_law (wsV RL 91 RX7 yX7_lifts wsX7_lifts) := goodIn_app (goodIn_of _ (by decide +kernel)) ggL_law_X7_lifts
set_option maxRecDepth 20000 in
theorem ggL_law_X8_lifts : GoodIn wsL_law wsX8_lifts := goodIn_r _ [559, 346, 347, 5, 348, 158, 159, 160, 506, 507, 508, 509, 488, 124, 161, 162, 163, 164, 165, 107, 560, 561, 562, 563, 120, 121, 531, 532, 533, 534, 270, 349, 350, 351, 352, 115, 116, 271, 272, 273, 353, 354, 355, 356, 108, 110, 921, 922, 923, 924, 925, 926, 927, 928, 929, 930, 931, 932, 933, 934, 935, 936, 937, 938, 939, 940, 941, 942, 943, 944, 945, 946, 947, 948, 949, 950, 951, 952, 953, 954] (by decide +kernel) (by decide +kernel)
set_option maxRecDepth 20000 in
theorem gL_law_X8_lifts : GoodIn wsL_law (wsV RL 94 RX8 yX8_lifts wsX8_lifts) := goodIn_app (goodIn_of _ (by decide +kernel)) ggL_law_X8_lifts
set_option maxRecDepth 20000 in
theorem ggL_law_X7_load : GoodIn wsL_law wsX7_load := goodIn_r _ [567, 23, 39, 568, 331, 332, 2, 333, 140, 141, 142, 493, 494, 495, 496, 476, 477, 478, 22, 479, 77, 497, 470, 471, 472, 71, 143, 144, 145, 146, 41, 42, 569, 570, 571, 572, 76, 518, 519, 520, 521, 72, 78, 469, 522, 291, 292, 18, 293, 65, 573, 552, 553, 554, 555, 335, 336, 337, 64, 60, 66, 62, 61, 301, 302, 303, 304, 305, 306, 338, 339, 340, 14, 341, 50, 49, 307, 308, 309, 310, 311, 312, 313, 314, 315, 316, 317, 574, 575, 576, 577, 578, 579, 580, 581, 582, 583, 584, 585, 586, 587, 51, 588, 589, 590, 38, 591, 101, 102, 592, 593, 594, 911, 912, 913, 914, 915, 916, 917, 918, 919, 920, 965, 966, 967, 968, 969, 970, 971, 958, 959, 960, 961, 962, 963, 964, 955, 956, 957, 980, 981] (by decide +kernel) (by decide +kernel)
set_option maxRecDepth 20000 in
theorem gL_law_X7_load : GoodIn wsL_law (wsV RL 95 RX7 yX7_load wsX7_load) := goodIn_app (goodIn_of _ (by decide +kernel)) ggL_law_X7_load
set_option maxRecDepth 20000 in
theorem ggL_law_X8_load : GoodIn wsL_law wsX8_load := goodIn_r _ [598, 599, 346, 347, 5, 348, 158, 159, 160, 506, 507, 508, 509, 488, 124, 161, 162, 163, 164, 165, 107, 600, 601, 602, 603, 270, 121, 109, 116, 604, 605, 606, 607, 120, 531, 532, 533, 534, 560, 561, 562, 563, 349, 350, 351, 352, 115, 271, 272, 273, 353, 354, 355, 356, 108, 110, 608, 609, 610, 611, 612, 132, 921, 922, 923, 924, 925, 926, 927, 928, 929, 930, 931, 932, 933, 934, 935, 936, 937, 938, 939, 940, 941, 942, 943, 944, 945, 946, 947, 948, 949, 950, 951, 952, 953, 954] (by decide +kernel) (by decide +kernel)
set_option maxRecDepth 20000 in
theorem gL_law_X8_load : GoodIn wsL_law (wsV RL 98 RX8 yX8_load wsX8_load) := goodIn_app (goodIn_of _ (by decide +kernel)) ggL_law_X8_load
set_option maxRecDepth 20000 in
theorem ggL_law_X7_change : GoodIn wsL_law wsX7_change := goodIn_r _ [616, 39, 23, 617, 618, 619, 620, 2, 621, 331, 332, 333, 140, 141, 142, 493, 494, 495, 496, 476, 477, 478, 22, 479, 77, 497, 470, 471, 472, 71, 143, 144, 145, 146, 41, 42, 539, 540, 541, 542, 622, 623, 624, 625, 73, 626, 627, 628, 629, 78, 72, 630, 631, 313, 632, 555, 335, 336, 18, 337, 64, 60, 66, 62, 61, 301, 302, 303, 304, 305, 306, 338, 339, 340, 14, 341, 50, 49, 307, 308, 309, 310, 311, 312, 314, 315, 316, 317, 588, 589, 590, 38, 591, 101, 102, 592, 593, 594, 911, 912, 913, 914, 915, 916, 917, 918, 919, 920, 965, 966, 967, 968, 969, 970, 971, 958, 959, 960, 961, 962, 963, 964, 955, 956, 957, 980, 981] (by decide +kernel) (by decide +kernel)
set_option maxRecDepth 20000 in
theorem gL_law_X7_change : GoodIn wsL_law (wsV RL 99 RX7 yX7_change wsX7_change) := goodIn_app (goodIn_of _ (by decide +kernel)) ggL_law_X7_change
set_option maxRecDepth 20000 in
theorem ggL_law_X8_change : GoodIn wsL_law wsX8_change := goodIn_r _ [636, 122, 637, 638, 639, 640, 5, 641, 120, 346, 347, 348, 158, 159, 160, 506, 507, 508, 509, 488, 124, 161, 162, 163, 164, 165, 107, 642, 643, 644, 645, 121, 349, 350, 351, 352, 270, 115, 116, 271, 272, 273, 353, 354, 355, 356, 108, 110, 608, 609, 610, 611, 612, 132, 921, 922, 923, 924, 925, 926, 927, 928, 929, 930, 931, 932, 933, 934, 935, 936, 937, 938, 939, 940, 941, 942, 943, 944, 945, 946, 947, 948, 949, 950, 951, 952, 953, 954] (by decide +kernel) (by decide +kernel)
set_option maxRecDepth 20000 in
theorem gL_law_X8_change : GoodIn wsL_law (wsV RL 102 RX8 yX8_change wsX8_change) := goodIn_app (goodIn_of _ (by decide +kernel)) ggL_law_X8_change
set_option maxRecDepth 20000 in
theorem ggL_law_X7_firm : GoodIn wsL_law wsX7_firm := goodIn_r _ [649, 23, 39, 568, 617, 618, 619, 620, 2, 621, 331, 332, 333, 140, 141, 142, 493, 494, 495, 496, 476, 477, 478, 22, 479, 77, 497, 470, 471, 472, 71, 143, 144, 145, 146, 41, 42, 539, 540, 541, 542, 569, 570, 571, 572, 76, 518, 519, 520, 521, 72, 78, 469, 522, 291, 292, 18, 293, 65, 573, 552, 553, 554, 555, 335, 336, 337, 64, 60, 66, 62, 61, 301, 302, 303, 304, 305, 306, 338, 339, 340, 14, 341, 50, 49, 307, 308, 309, 310, 311, 312, 313, 314, 315, 316, 317, 574, 575, 576, 577, 578, 579, 580, 581, 582, 583, 584, 585, 586, 587, 51, 622, 623, 624, 625, 73, 626, 627, 628, 629, 630, 631, 632, 588, 589, 590, 38, 591, 101, 102, 592, 593, 594, 911, 912, 913, 914, 915, 916, 917, 918, 919, 920, 965, 966, 967, 968, 969, 970, 971, 958, 959, 960, 961, 962, 963, 964, 955, 956, 957, 980, 981] (by decide +kernel) (by decide +kernel)
set_option maxRecDepth 20000 in
theorem gL_law_X7_firm : GoodIn wsL_law (wsV RL 103 RX7 yX7_firm wsX7_firm) := goodIn_app (goodIn_of _ (by decide +kernel)) ggL_law_X7_firm
set_option maxRecDepth 20000 in
theorem ggL_law_X8_firm : GoodIn wsL_law wsX8_firm := goodIn_r _ [653, 599, 122, 637, 638, 639, 640, 5, 641, 120, 346, 347, 348, 158, 159, 160, 506, 507, 508, 509, 488, 124, 161, 162, 163, 164, 165, 107, 600, 601, 602, 603, 270, 121, 109, 116, 604, 605, 606, 607, 531, 532, 533, 534, 560, 561, 562, 563, 349, 350, 351, 352, 115, 271, 272, 273, 353, 354, 355, 356, 108, 110, 642, 643, 644, 645, 608, 609, 610, 611, 612, 132, 921, 922, 923, 924, 925, 926, 927, 928, 929, 930, 931, 932, 933, 934, 935, 936, 937, 938, 939, 940, 941, 942, 943, 944, 945, 946, 947, 948, 949, 950, 951, 952, 953, 954] (by decide +kernel) (by decide +kernel)
set_option maxRecDepth 20000 in
theorem gL_law_X8_firm : GoodIn wsL_law (wsV RL 106 RX8 yX8_firm wsX8_firm) := goodIn_app (goodIn_of _ (by decide +kernel)) ggL_law_X8_firm
set_option maxRecDepth 20000 in
theorem ggL_law_X7_list : GoodIn wsL_law wsX7_list := goodIn_r _ [657, 27, 473, 474, 2, 475, 140, 141, 142, 658, 659, 660, 26, 661, 83, 662, 663, 664, 665, 82, 911, 912, 913, 914, 915, 916, 917, 918, 919, 920, 972, 973] (by decide +kernel) (by decide +kernel)
set_option maxRecDepth 20000 in
theorem gL_law_X7_list : GoodIn wsL_law (wsV RL 107 RX7 yX7_list wsX7_list) := goodIn_app (goodIn_of _ (by decide +kernel)) ggL_law_X7_list
set_option maxRecDepth 20000 in
theorem ggL_law_X8_list : GoodIn wsL_law wsX8_list := goodIn_r _ [669, 670, 125, 158, 159, 5, 160, 921, 922, 923, 924, 925, 926, 927, 928, 929, 930, 931, 932, 933, 934, 935, 936, 937, 938, 939, 940, 941, 942, 943, 944, 945, 946, 947, 948, 949, 950, 951, 952, 953, 954] (by decide +kernel) (by decide +kernel)
set_option maxRecDepth 20000 in
theorem gL_law_X8_list : GoodIn wsL_law (wsV RL 110 RX8 yX8_list wsX8_list) := goodIn_app (goodIn_of _ (by decide +kernel)) ggL_law_X8_list
set_option maxRecDepth 20000 in
theorem ggL_law_X7_choose : GoodIn wsL_law wsX7_choose := goodIn_r _ [674, 23, 27, 618, 619, 620, 2, 621, 331, 332, 333, 140, 141, 142, 493, 494, 495, 496, 476, 477, 478, 22, 479, 77, 497, 470, 471, 472, 71, 143, 144, 145, 146, 41, 42, 539, 540, 541, 542, 569, 570, 571, 572, 76, 518, 519, 520, 521, 72, 78, 469, 522, 291, 292, 18, 293, 65, 573, 552, 553, 554, 555, 335, 336, 337, 64, 60, 66, 62, 61, 301, 302, 303, 304, 305, 306, 338, 339, 340, 14, 341, 50, 49, 307, 308, 309, 310, 311, 312, 313, 314, 315, 316, 317, 574, 575, 576, 577, 578, 579, 580, 581, 582, 583, 584, 585, 586, 587, 51, 626, 627, 628, 629, 630, 631, 632, 675, 676, 677, 26, 678, 83, 679, 82, 680, 681, 682, 683, 684, 73, 911, 912, 913, 914, 915, 916, 917, 918, 919, 920, 965, 966, 967, 968, 969, 970, 971, 958, 959, 960, 961, 962, 963, 964, 955, 956, 957, 972, 973] (by decide +kernel) (by decide +kernel)
set_option maxRecDepth 20000 in
theorem gL_law_X7_choose : GoodIn wsL_law (wsV RL 111 RX7 yX7_choose wsX7_choose) := goodIn_app (goodIn_of _ (by decide +kernel)) ggL_law_X7_choose
set_option maxRecDepth 20000 in
theorem ggL_law_X8_choose : GoodIn wsL_law wsX8_choose := goodIn_r _ [688, 670, 689, 125, 637, 122, 638, 639, 640, 5, 641, 120, 346, 347, 348, 158, 159, 160, 506, 507, 508, 509, 488, 124, 161, 162, 163, 164, 165, 107, 600, 601, 602, 603, 270, 121, 109, 116, 604, 605, 606, 607, 531, 532, 533, 534, 560, 561, 562, 563, 349, 350, 351, 352, 115, 271, 272, 273, 353, 354, 355, 356, 108, 110, 642, 643, 644, 645, 921, 922, 923, 924, 925, 926, 927, 928, 929, 930, 931, 932, 933, 934, 935, 936, 937, 938, 939, 940, 941, 942, 943, 944, 945, 946, 947, 948, 949, 950, 951, 952, 953, 954] (by decide +kernel) (by decide +kernel)
set_option maxRecDepth 20000 in
theorem gL_law_X8_choose : GoodIn wsL_law (wsV RL 114 RX8 yX8_choose wsX8_choose) := goodIn_app (goodIn_of _ (by decide +kernel)) ggL_law_X8_choose
set_option maxRecDepth 20000 in
theorem ggL_law_X7_amount : GoodIn wsL_law wsX7_amount := goodIn_r _ [693, 31, 694, 695, 2, 696, 140, 141, 142, 697, 698, 699, 30, 700, 88, 89, 90, 911, 912, 913, 914, 915, 916, 917, 918, 919, 920, 974, 975, 976, 977] (by decide +kernel) (by decide +kernel)
set_option maxRecDepth 20000 in
theorem gL_law_X7_amount : GoodIn wsL_law (wsV RL 115 RX7 yX7_amount wsX7_amount) := goodIn_app (goodIn_of _ (by decide +kernel)) ggL_law_X7_amount
set_option maxRecDepth 20000 in
theorem ggL_law_X8_amount : GoodIn wsL_law wsX8_amount := goodIn_r _ [704, 126, 127, 128, 705, 706, 5, 707, 158, 159, 160, 921, 922, 923, 924, 925, 926, 927, 928, 929, 930, 931, 932, 933, 934, 935, 936, 937, 938, 939, 940, 941, 942, 943, 944, 945, 946, 947, 948, 949, 950, 951, 952, 953, 954] (by decide +kernel) (by decide +kernel)
set_option maxRecDepth 20000 in
theorem gL_law_X8_amount : GoodIn wsL_law (wsV RL 118 RX8 yX8_amount wsX8_amount) := goodIn_app (goodIn_of _ (by decide +kernel)) ggL_law_X8_amount
set_option maxRecDepth 20000 in
theorem ggL_law_X7_bar : GoodIn wsL_law wsX7_bar := goodIn_r _ [711, 31, 694, 695, 2, 696, 140, 141, 142, 712, 713, 714, 30, 715, 91, 911, 912, 913, 914, 915, 916, 917, 918, 919, 920, 974, 975, 976, 977] (by decide +kernel) (by decide +kernel)
set_option maxRecDepth 20000 in
theorem gL_law_X7_bar : GoodIn wsL_law (wsV RL 119 RX7 yX7_bar wsX7_bar) := goodIn_app (goodIn_of _ (by decide +kernel)) ggL_law_X7_bar
set_option maxRecDepth 20000 in
theorem ggL_law_X8_bar : GoodIn wsL_law wsX8_bar := goodIn_r _ [719, 129, 705, 706, 5, 707, 158, 159, 160, 921, 922, 923, 924, 925, 926, 927, 928, 929, 930, 931, 932, 933, 934, 935, 936, 937, 938, 939, 940, 941, 942, 943, 944, 945, 946, 947, 948, 949, 950, 951, 952, 953, 954] (by decide +kernel) (by decide +kernel)
set_option maxRecDepth 20000 in
theorem gL_law_X8_bar : GoodIn wsL_law (wsV RL 123 RX8 yX8_bar wsX8_bar) := goodIn_app (goodIn_of _ (by decide +kernel)) ggL_law_X8_bar
set_option maxRecDepth 20000 in
theorem ggL_law_X7_worst : GoodIn wsL_law wsX7_worst := goodIn_r _ [723, 31, 43, 724, 725, 726, 30, 727, 728, 729, 730, 731, 91, 732, 733, 734, 735, 88, 89, 90, 736, 316, 313, 317, 737, 911, 912, 913, 914, 915, 916, 917, 918, 919, 920, 974, 975, 976, 977] (by decide +kernel) (by decide +kernel)
set_option maxRecDepth 20000 in
theorem gL_law_X7_worst : GoodIn wsL_law (wsV RL 124 RX7 yX7_worst wsX7_worst) := goodIn_app (goodIn_of _ (by decide +kernel)) ggL_law_X7_worst
set_option maxRecDepth 20000 in
theorem ggL_law_X8_worst : GoodIn wsL_law wsX8_worst := goodIn_r _ [741, 742, 743, 744, 5, 745, 129, 746, 747, 748, 749, 126, 127, 128, 322, 323, 324, 325, 326, 921, 922, 923, 924, 925, 926, 927, 928, 929, 930, 931, 932, 933, 934, 935, 936, 937, 938, 939, 940, 941, 942, 943, 944, 945, 946, 947, 948, 949, 950, 951, 952, 953, 954] (by decide +kernel) (by decide +kernel)
set_option maxRecDepth 20000 in
theorem gL_law_X8_worst : GoodIn wsL_law (wsV RL 127 RX8 yX8_worst wsX8_worst) := goodIn_app (goodIn_of _ (by decide +kernel)) ggL_law_X8_worst
set_option maxRecDepth 20000 in
theorem ggL_law_X7_cycle : GoodIn wsL_law wsX7_cycle := goodIn_r _ [753, 754, 35, 140, 141, 2, 142, 755, 756, 757, 34, 758, 96, 759, 760, 761, 762, 97, 911, 912, 913, 914, 915, 916, 917, 918, 919, 920, 978, 979] (by decide +kernel) (by decide +kernel)
set_option maxRecDepth 20000 in
theorem gL_law_X7_cycle : GoodIn wsL_law (wsV RL 128 RX7 yX7_cycle wsX7_cycle) := goodIn_app (goodIn_of _ (by decide +kernel)) ggL_law_X7_cycle
set_option maxRecDepth 20000 in
theorem ggL_law_X8_cycle : GoodIn wsL_law wsX8_cycle := goodIn_r _ [766, 767, 768, 130, 131, 158, 159, 5, 160, 921, 922, 923, 924, 925, 926, 927, 928, 929, 930, 931, 932, 933, 934, 935, 936, 937, 938, 939, 940, 941, 942, 943, 944, 945, 946, 947, 948, 949, 950, 951, 952, 953, 954] (by decide +kernel) (by decide +kernel)
set_option maxRecDepth 20000 in
theorem gL_law_X8_cycle : GoodIn wsL_law (wsV RL 131 RX8 yX8_cycle wsX8_cycle) := goodIn_app (goodIn_of _ (by decide +kernel)) ggL_law_X8_cycle
set_option maxRecDepth 20000 in
theorem ggL_law_X7_used : GoodIn wsL_law wsX7_used := goodIn_r _ [772, 35, 39, 773, 774, 775, 776, 34, 777, 97, 588, 589, 590, 38, 591, 101, 102, 592, 593, 594, 911, 912, 913, 914, 915, 916, 917, 918, 919, 920, 978, 979, 980, 981] (by decide +kernel) (by decide +kernel)
set_option maxRecDepth 20000 in
theorem gL_law_X7_used : GoodIn wsL_law (wsV RL 132 RX7 yX7_used wsX7_used) := goodIn_app (goodIn_of _ (by decide +kernel)) ggL_law_X7_used
set_option maxRecDepth 20000 in
theorem ggL_law_X8_used : GoodIn wsL_law wsX8_used := goodIn_r _ [781, 768, 130, 131, 782, 608, 609, 610, 5, 611, 612, 132, 921, 922, 923, 924, 925, 926, 927, 928, 929, 930, 931, 932, 933, 934, 935, 936, 937, 938, 939, 940, 941, 942, 943, 944, 945, 946, 947, 948, 949, 950, 951, 952, 953, 954] (by decide +kernel) (by decide +kernel)
set_option maxRecDepth 20000 in
theorem gL_law_X8_used : GoodIn wsL_law (wsV RL 135 RX8 yX8_used wsX8_used) := goodIn_app (goodIn_of _ (by decide +kernel)) ggL_law_X8_used
set_option maxRecDepth 20000 in
theorem ggL_law_X7_read : GoodIn wsL_law wsX7_read := goodIn_r _ [786, 754, 23, 140, 141, 2, 142, 493, 494, 495, 496, 476, 477, 478, 22, 479, 77, 497, 470, 471, 472, 71, 143, 144, 145, 146, 41, 42, 787, 788, 789, 790, 74, 911, 912, 913, 914, 915, 916, 917, 918, 919, 920, 965, 966, 967, 968, 969, 970, 971] (by decide +kernel) (by decide +kernel)
set_option maxRecDepth 20000 in
theorem gL_law_X7_read : GoodIn wsL_law (wsV RL 136 RX7 yX7_read wsX7_read) := goodIn_app (goodIn_of _ (by decide +kernel)) ggL_law_X7_read
set_option maxRecDepth 20000 in
theorem ggL_law_X8_read : GoodIn wsL_law wsX8_read := goodIn_r _ [794, 767, 123, 158, 159, 5, 160, 506, 507, 508, 509, 488, 124, 161, 162, 163, 164, 165, 107, 921, 922, 923, 924, 925, 926, 927, 928, 929, 930, 931, 932, 933, 934, 935, 936, 937, 938, 939, 940, 941, 942, 943, 944, 945, 946, 947, 948, 949, 950, 951, 952, 953, 954] (by decide +kernel) (by decide +kernel)
set_option maxRecDepth 20000 in
theorem gL_law_X8_read : GoodIn wsL_law (wsV RL 139 RX8 yX8_read wsX8_read) := goodIn_app (goodIn_of _ (by decide +kernel)) ggL_law_X8_read
set_option maxRecDepth 20000 in
theorem ggL_law_X7_missing : GoodIn wsL_law wsX7_missing := goodIn_r _ [798, 23, 43, 331, 332, 2, 333, 140, 141, 142, 799, 800, 801, 22, 802, 77, 803, 804, 805, 806, 74, 469, 470, 471, 472, 71, 569, 570, 571, 572, 76, 518, 519, 520, 521, 72, 78, 522, 291, 292, 18, 293, 65, 573, 552, 553, 554, 555, 335, 336, 337, 64, 60, 66, 62, 61, 301, 302, 303, 304, 305, 306, 338, 339, 340, 14, 341, 50, 49, 307, 308, 309, 310, 311, 312, 313, 314, 315, 316, 317, 807, 808, 809, 810, 630, 631, 632, 811, 575, 576, 577, 578, 579, 580, 581, 582, 583, 584, 585, 586, 587, 51, 476, 477, 478, 479, 812, 813, 814, 815, 911, 912, 913, 914, 915, 916, 917, 918, 919, 920, 965, 966, 967, 968, 969, 970, 971, 958, 959, 960, 961, 962, 963, 964, 955, 956, 957] (by decide +kernel) (by decide +kernel)
set_option maxRecDepth 20000 in
theorem gL_law_X7_missing : GoodIn wsL_law (wsV RL 140 RX7 yX7_missing wsX7_missing) := goodIn_app (goodIn_of _ (by decide +kernel)) ggL_law_X7_missing
set_option maxRecDepth 20000 in
theorem ggL_law_X8_missing : GoodIn wsL_law wsX8_missing := goodIn_r _ [819, 488, 124, 123, 346, 347, 5, 348, 158, 159, 160, 820, 821, 822, 823, 600, 601, 602, 603, 270, 121, 109, 116, 604, 605, 606, 607, 120, 531, 532, 533, 534, 560, 561, 562, 563, 349, 350, 351, 352, 115, 271, 272, 273, 353, 354, 355, 356, 108, 110, 322, 323, 324, 325, 326, 921, 922, 923, 924, 925, 926, 927, 928, 929, 930, 931, 932, 933, 934, 935, 936, 937, 938, 939, 940, 941, 942, 943, 944, 945, 946, 947, 948, 949, 950, 951, 952, 953, 954] (by decide +kernel) (by decide +kernel)
set_option maxRecDepth 20000 in
theorem gL_law_X8_missing : GoodIn wsL_law (wsV RL 143 RX8 yX8_missing wsX8_missing) := goodIn_app (goodIn_of _ (by decide +kernel)) ggL_law_X8_missing
set_option maxRecDepth 20000 in
theorem ggL_law_X7_asked : GoodIn wsL_law wsX7_asked := goodIn_r _ [827, 43, 911, 912, 913, 914, 915, 916, 917, 918, 919, 920] (by decide +kernel) (by decide +kernel)
set_option maxRecDepth 20000 in
theorem gL_law_X7_asked : GoodIn wsL_law (wsV RL 144 RX7 yX7_asked wsX7_asked) := goodIn_app (goodIn_of _ (by decide +kernel)) ggL_law_X7_asked
set_option maxRecDepth 20000 in
theorem ggL_law_X8_asked : GoodIn wsL_law wsX8_asked := goodIn_r _ [831, 326, 921, 922, 923, 924, 925, 926, 927, 928, 929, 930, 931, 932, 933, 934, 935, 936, 937, 938, 939, 940, 941, 942, 943, 944, 945, 946, 947, 948, 949, 950, 951, 952, 953, 954] (by decide +kernel) (by decide +kernel)
set_option maxRecDepth 20000 in
theorem gL_law_X8_asked : GoodIn wsL_law (wsV RL 147 RX8 yX8_asked wsX8_asked) := goodIn_app (goodIn_of _ (by decide +kernel)) ggL_law_X8_asked
set_option maxRecDepth 20000 in
theorem ggL_law_X7_upper : GoodIn wsL_law wsX7_upper := goodIn_r _ [835, 39, 911, 912, 913, 914, 915, 916, 917, 918, 919, 920, 980, 981] (by decide +kernel) (by decide +kernel)
set_option maxRecDepth 20000 in
theorem gL_law_X7_upper : GoodIn wsL_law (wsV RL 148 RX7 yX7_upper wsX7_upper) := goodIn_app (goodIn_of _ (by decide +kernel)) ggL_law_X7_upper
set_option maxRecDepth 20000 in
theorem ggL_law_X8_upper : GoodIn wsL_law wsX8_upper := goodIn_r _ [839, 612, 921, 922, 923, 924, 925, 926, 927, 928, 929, 930, 931, 932, 933, 934, 935, 936, 937, 938, 939, 940, 941, 942, 943, 944, 945, 946, 947, 948, 949, 950, 951, 952, 953, 954] (by decide +kernel) (by decide +kernel)
set_option maxRecDepth 20000 in
theorem gL_law_X8_upper : GoodIn wsL_law (wsV RL 152 RX8 yX8_upper wsX8_upper) := goodIn_app (goodIn_of _ (by decide +kernel)) ggL_law_X8_upper
set_option maxRecDepth 20000 in
theorem ggL_law_X7_lower : GoodIn wsL_law wsX7_lower := goodIn_r _ [843, 39, 911, 912, 913, 914, 915, 916, 917, 918, 919, 920, 980, 981] (by decide +kernel) (by decide +kernel)
set_option maxRecDepth 20000 in
theorem gL_law_X7_lower : GoodIn wsL_law (wsV RL 153 RX7 yX7_lower wsX7_lower) := goodIn_app (goodIn_of _ (by decide +kernel)) ggL_law_X7_lower
set_option maxRecDepth 20000 in
theorem ggL_law_X8_lower : GoodIn wsL_law wsX8_lower := goodIn_r _ [847, 132, 921, 922, 923, 924, 925, 926, 927, 928, 929, 930, 931, 932, 933, 934, 935, 936, 937, 938, 939, 940, 941, 942, 943, 944, 945, 946, 947, 948, 949, 950, 951, 952, 953, 954] (by decide +kernel) (by decide +kernel)
set_option maxRecDepth 20000 in
theorem gL_law_X8_lower : GoodIn wsL_law (wsV RL 156 RX8 yX8_lower wsX8_lower) := goodIn_app (goodIn_of _ (by decide +kernel)) ggL_law_X8_lower
set_option maxRecDepth 20000 in
theorem ggL_law_X7_count : GoodIn wsL_law wsX7_count := goodIn_r _ [851, 19, 23, 27, 35, 253, 254, 255, 18, 256, 64, 290, 291, 292, 293, 65, 476, 477, 478, 22, 479, 77, 852, 853, 854, 855, 469, 470, 471, 472, 71, 658, 659, 660, 26, 661, 83, 755, 756, 757, 34, 758, 96, 911, 912, 913, 914, 915, 916, 917, 918, 919, 920, 958, 959, 960, 961, 962, 963, 964, 965, 966, 967, 968, 969, 970, 971, 972, 973, 978, 979] (by decide +kernel) (by decide +kernel)
set_option maxRecDepth 20000 in
theorem gL_law_X7_count : GoodIn wsL_law (wsV RL 157 RX7 yX7_count wsX7_count) := goodIn_app (goodIn_of _ (by decide +kernel)) ggL_law_X7_count
set_option maxRecDepth 20000 in
theorem ggL_law_X8_count : GoodIn wsL_law wsX8_count := goodIn_r _ [859, 488, 124, 265, 270, 670, 768, 921, 922, 923, 924, 925, 926, 927, 928, 929, 930, 931, 932, 933, 934, 935, 936, 937, 938, 939, 940, 941, 942, 943, 944, 945, 946, 947, 948, 949, 950, 951, 952, 953, 954] (by decide +kernel) (by decide +kernel)
set_option maxRecDepth 20000 in
theorem gL_law_X8_count : GoodIn wsL_law (wsV RL 160 RX8 yX8_count wsX8_count) := goodIn_app (goodIn_of _ (by decide +kernel)) ggL_law_X8_count
set_option maxRecDepth 20000 in
theorem ggL_law_X7_finding : GoodIn wsL_law wsX7_finding := goodIn_r _ [863, 42, 911, 912, 913, 914, 915, 916, 917, 918, 919, 920] (by decide +kernel) (by decide +kernel)
set_option maxRecDepth 20000 in
theorem gL_law_X7_finding : GoodIn wsL_law (wsV RL 161 RX7 yX7_finding wsX7_finding) := goodIn_app (goodIn_of _ (by decide +kernel)) ggL_law_X7_finding
set_option maxRecDepth 20000 in
theorem ggL_law_X8_finding : GoodIn wsL_law wsX8_finding := goodIn_r _ [867, 165, 921, 922, 923, 924, 925, 926, 927, 928, 929, 930, 931, 932, 933, 934, 935, 936, 937, 938, 939, 940, 941, 942, 943, 944, 945, 946, 947, 948, 949, 950, 951, 952, 953, 954] (by decide +kernel) (by decide +kernel)
set_option maxRecDepth 20000 in
theorem gL_law_X8_finding : GoodIn wsL_law (wsV RL 164 RX8 yX8_finding wsX8_finding) := goodIn_app (goodIn_of _ (by decide +kernel)) ggL_law_X8_finding
set_option maxRecDepth 20000 in
theorem ggL_law_X7_findings : GoodIn wsL_law wsX7_findings := goodIn_r _ [871, 41, 140, 141, 2, 142, 911, 912, 913, 914, 915, 916, 917, 918, 919, 920] (by decide +kernel) (by decide +kernel)
set_option maxRecDepth 20000 in
theorem gL_law_X7_findings : GoodIn wsL_law (wsV RL 165 RX7 yX7_findings wsX7_findings) := goodIn_app (goodIn_of _ (by decide +kernel)) ggL_law_X7_findings
set_option maxRecDepth 20000 in
theorem ggL_law_X8_findings : GoodIn wsL_law wsX8_findings := goodIn_r _ [875, 107, 158, 159, 5, 160, 921, 922, 923, 924, 925, 926, 927, 928, 929, 930, 931, 932, 933, 934, 935, 936, 937, 938, 939, 940, 941, 942, 943, 944, 945, 946, 947, 948, 949, 950, 951, 952, 953, 954] (by decide +kernel) (by decide +kernel)
set_option maxRecDepth 20000 in
theorem gL_law_X8_findings : GoodIn wsL_law (wsV RL 168 RX8 yX8_findings wsX8_findings) := goodIn_app (goodIn_of _ (by decide +kernel)) ggL_law_X8_findings
set_option maxRecDepth 20000 in
theorem ggL_law_X7_digest : GoodIn wsL_law wsX7_digest := goodIn_r _ [879, 880, 881, 19, 23, 31, 15, 882, 849, 850, 2, 851, 27, 35, 253, 254, 255, 18, 256, 64, 290, 291, 292, 293, 65, 476, 477, 478, 22, 479, 77, 852, 853, 854, 855, 469, 470, 471, 472, 71, 658, 659, 660, 26, 661, 83, 755, 756, 757, 34, 758, 96, 883, 884, 885, 886, 887, 60, 61, 62, 888, 889, 890, 891, 892, 74, 893, 515, 516, 517, 72, 73, 518, 519, 520, 521, 78, 522, 894, 895, 896, 30, 897, 898, 88, 89, 90, 899, 900, 901, 14, 902, 903, 51, 50, 49, 911, 912, 913, 914, 915, 916, 917, 918, 919, 920, 958, 959, 960, 961, 962, 963, 964, 965, 966, 967, 968, 969, 970, 971, 972, 973, 978, 979, 974, 975, 976, 977, 955, 956, 957] (by decide +kernel) (by decide +kernel)
set_option maxRecDepth 20000 in
theorem gL_law_X7_digest : GoodIn wsL_law (wsV RL 169 RX7 yX7_digest wsX7_digest) := goodIn_app (goodIn_of _ (by decide +kernel)) ggL_law_X7_digest
set_option maxRecDepth 20000 in
theorem ggL_law_X8_digest : GoodIn wsL_law wsX8_digest := goodIn_r _ [907, 908, 909, 265, 112, 113, 114, 488, 124, 123, 126, 127, 128, 109, 108, 110, 910, 857, 858, 5, 859, 270, 670, 768, 527, 528, 529, 530, 120, 121, 122, 531, 532, 533, 534, 921, 922, 923, 924, 925, 926, 927, 928, 929, 930, 931, 932, 933, 934, 935, 936, 937, 938, 939, 940, 941, 942, 943, 944, 945, 946, 947, 948, 949, 950, 951, 952, 953, 954] (by decide +kernel) (by decide +kernel)
set_option maxRecDepth 20000 in
theorem gL_law_X8_digest : GoodIn wsL_law (wsV RL 172 RX8 yX8_digest wsX8_digest) := goodIn_app (goodIn_of _ (by decide +kernel)) ggL_law_X8_digest
