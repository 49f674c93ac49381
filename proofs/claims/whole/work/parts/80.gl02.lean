set_option maxRecDepth 20000 in
theorem ggL_law_X7_strip : GoodIn wsL_law wsX7_strip := goodIn_r _ [286, 36, 287, 911, 912, 913, 914, 915, 916, 917, 988, 989, 990, 991, 992] (by decide +kernel) (by decide +kernel)
set_option maxRecDepth 20000 in
theorem gL_law_X7_strip : GoodIn wsL_law (wsV RL 92 RX7 yX7_strip wsX7_strip) := goodIn_app (goodIn_of _ (by decide +kernel)) ggL_law_X7_strip
set_option maxRecDepth 20000 in
theorem ggL_law_X8_strip : GoodIn wsL_law wsX8_strip := goodIn_r _ [291, 143, 282, 918, 919, 920, 921, 922, 923, 924, 925, 926, 927, 928, 929, 930, 931, 932, 933, 934, 935, 936, 937, 938, 939, 940, 941, 942, 943, 944, 945, 946, 947, 948, 949, 950, 951, 952] (by decide +kernel) (by decide +kernel)
set_option maxRecDepth 20000 in
theorem gL_law_X8_strip : GoodIn wsL_law (wsV RL 95 RX8 yX8_strip wsX8_strip) := goodIn_app (goodIn_of _ (by decide +kernel)) ggL_law_X8_strip
set_option maxRecDepth 20000 in
theorem ggL_law_X7_train : GoodIn wsL_law wsX7_train := goodIn_r _ [295, 36, 296, 297, 298, 35, 299, 90, 300, 301, 302, 303, 911, 912, 913, 914, 915, 916, 917, 988, 989, 990, 991, 992] (by decide +kernel) (by decide +kernel)
set_option maxRecDepth 20000 in
theorem gL_law_X7_train : GoodIn wsL_law (wsV RL 96 RX7 yX7_train wsX7_train) := goodIn_app (goodIn_of _ (by decide +kernel)) ggL_law_X7_train
set_option maxRecDepth 20000 in
theorem ggL_law_X8_train : GoodIn wsL_law wsX8_train := goodIn_r _ [307, 143, 308, 108, 309, 150, 151, 5, 152, 918, 919, 920, 921, 922, 923, 924, 925, 926, 927, 928, 929, 930, 931, 932, 933, 934, 935, 936, 937, 938, 939, 940, 941, 942, 943, 944, 945, 946, 947, 948, 949, 950, 951, 952] (by decide +kernel) (by decide +kernel)
set_option maxRecDepth 20000 in
theorem gL_law_X8_train : GoodIn wsL_law (wsV RL 99 RX8 yX8_train wsX8_train) := goodIn_app (goodIn_of _ (by decide +kernel)) ggL_law_X8_train
set_option maxRecDepth 20000 in
theorem ggL_law_X7_count : GoodIn wsL_law wsX7_count := goodIn_r _ [313, 19, 125, 177, 201, 36, 287, 314, 28, 315, 316, 317, 318, 27, 319, 320, 321, 322, 323, 324, 325, 77, 326, 76, 327, 328, 329, 15, 330, 185, 190, 49, 50, 211, 2, 212, 331, 332, 333, 334, 335, 336, 337, 338, 339, 340, 341, 342, 343, 344, 345, 346, 347, 348, 349, 350, 351, 45, 352, 353, 354, 355, 356, 357, 358, 359, 20, 360, 361, 362, 363, 364, 365, 366, 18, 367, 368, 369, 370, 371, 372, 373, 374, 375, 376, 61, 377, 378, 59, 379, 380, 381, 382, 383, 58, 384, 385, 386, 387, 388, 389, 390, 391, 392, 60, 393, 394, 395, 396, 397, 398, 399, 400, 401, 402, 403, 404, 405, 406, 407, 408, 409, 410, 411, 911, 912, 913, 914, 915, 916, 917, 953, 954, 955, 956, 957, 958, 959, 960, 961, 962, 988, 989, 990, 991, 992, 979, 980, 981, 982, 963, 964, 965, 966, 967, 968, 969, 970, 971] (by decide +kernel) (by decide +kernel)
set_option maxRecDepth 20000 in
theorem gL_law_X7_count : GoodIn wsL_law (wsV RL 100 RX7 yX7_count wsX7_count) := goodIn_app (goodIn_of _ (by decide +kernel)) ggL_law_X7_count
set_option maxRecDepth 20000 in
theorem ggL_law_X8_count : GoodIn wsL_law wsX8_count := goodIn_r _ [415, 143, 196, 144, 195, 416, 417, 418, 282, 309, 419, 420, 421, 422, 5, 423, 424, 425, 426, 427, 111, 109, 110, 428, 429, 430, 431, 101, 221, 222, 223, 432, 433, 434, 435, 103, 104, 99, 100, 436, 437, 438, 439, 440, 441, 442, 443, 444, 445, 446, 447, 448, 449, 450, 451, 452, 453, 454, 455, 456, 457, 458, 459, 460, 461, 120, 462, 463, 464, 465, 918, 919, 920, 921, 922, 923, 924, 925, 926, 927, 928, 929, 930, 931, 932, 933, 934, 935, 936, 937, 938, 939, 940, 941, 942, 943, 944, 945, 946, 947, 948, 949, 950, 951, 952] (by decide +kernel) (by decide +kernel)
set_option maxRecDepth 20000 in
theorem gL_law_X8_count : GoodIn wsL_law (wsV RL 103 RX8 yX8_count wsX8_count) := goodIn_app (goodIn_of _ (by decide +kernel)) ggL_law_X8_count
set_option maxRecDepth 20000 in
theorem ggL_law_L_of : GoodIn wsL_law wsL_of := goodIn_ca (goodIn_r _ [469, 470, 471, 472, 473, 2, 474, 475, 476, 19, 477, 251, 239, 161, 162, 163, 15, 164, 134, 478, 479, 480, 481, 328, 329, 330, 185, 190, 49, 50, 211, 212, 911, 912, 913, 914, 915, 916, 917, 953, 954, 955, 956, 957, 958, 959, 960, 961, 962] (by decide +kernel) (by decide +kernel)) (goodIn_sub (fun _ h => List.mem_append_right _ h) (by decide +kernel))
set_option maxRecDepth 20000 in
theorem gL_law_L_of : GoodIn wsL_law (va_wsS RL 104 yL_of wsL_of) := goodIn_app (goodIn_of _ (by decide +kernel)) ggL_law_L_of
set_option maxRecDepth 20000 in
theorem ggL_law_X8_of : GoodIn wsL_law wsX8_of := goodIn_r _ [485, 486, 143, 99, 100, 102, 101, 195, 196, 103, 104, 169, 170, 171, 5, 172, 144, 150, 151, 152, 221, 222, 223, 918, 919, 920, 921, 922, 923, 924, 925, 926, 927, 928, 929, 930, 931, 932, 933, 934, 935, 936, 937, 938, 939, 940, 941, 942, 943, 944, 945, 946, 947, 948, 949, 950, 951, 952] (by decide +kernel) (by decide +kernel)
set_option maxRecDepth 20000 in
theorem gL_law_X8_of : GoodIn wsL_law (wsV RL 109 RX8 yX8_of wsX8_of) := goodIn_app (goodIn_of _ (by decide +kernel)) ggL_law_X8_of
set_option maxRecDepth 20000 in
theorem ggL_law_X8_thrown : GoodIn wsL_law wsX8_thrown := goodIn_r _ [490, 143, 918, 919, 920, 921, 922, 923, 924, 925, 926, 927, 928, 929, 930, 931, 932, 933, 934, 935, 936, 937, 938, 939, 940, 941, 942, 943, 944, 945, 946, 947, 948, 949, 950, 951, 952] (by decide +kernel) (by decide +kernel)
set_option maxRecDepth 20000 in
theorem gL_law_X8_thrown : GoodIn wsL_law (wsV RL 110 RX8 yX8_thrown wsX8_thrown) := goodIn_app (goodIn_of _ (by decide +kernel)) ggL_law_X8_thrown
set_option maxRecDepth 20000 in
theorem ggL_law_L_at : GoodIn wsL_law wsL_at := goodIn_ca (goodIn_r _ [493, 470, 494, 495, 496, 2, 497, 475, 476, 19, 498, 499, 229, 228, 20, 201, 202, 203, 204, 15, 205, 185, 478, 479, 480, 206, 207, 208, 209, 190, 210, 211, 212, 364, 365, 366, 18, 367, 368, 369, 370, 371, 372, 373, 374, 375, 376, 61, 377, 378, 59, 379, 380, 381, 382, 383, 58, 384, 349, 350, 351, 45, 50, 49, 385, 386, 387, 388, 389, 390, 391, 392, 60, 393, 394, 395, 396, 397, 398, 399, 400, 401, 402, 500, 501, 502, 503, 411, 337, 338, 339, 340, 341, 342, 911, 912, 913, 914, 915, 916, 917, 953, 954, 955, 956, 957, 958, 959, 960, 961, 962, 963, 964, 965, 966, 967, 968, 969, 970, 971] (by decide +kernel) (by decide +kernel)) (goodIn_sub (fun _ h => List.mem_append_right _ h) (by decide +kernel))
set_option maxRecDepth 20000 in
theorem gL_law_L_at : GoodIn wsL_law (va_wsS RL 113 yL_at wsL_at) := goodIn_app (goodIn_of _ (by decide +kernel)) ggL_law_L_at
