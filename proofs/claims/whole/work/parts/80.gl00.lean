set_option maxRecDepth 20000 in
theorem ggL_law_X7_init : GoodIn wsL_law wsX7_init := goodIn_r _ [9, 10, 11, 12, 13, 14, 15, 16, 17, 18, 19, 20, 21, 22, 23, 24, 25, 26, 27, 28, 29, 30, 31, 32, 33, 34, 35, 36, 37, 38, 39, 40, 41, 42, 43, 44, 45, 46, 47, 48, 49, 50, 51, 52, 53, 54, 55, 56, 57, 6, 58, 59, 60, 61, 62, 63, 64, 65, 66, 67, 68, 69, 70, 71, 72, 73, 74, 75, 76, 77, 78, 79, 80, 81, 82, 83, 84, 85, 86, 87, 88, 89, 90, 91, 92, 93, 94, 953, 954, 955, 956, 957, 958, 959, 960, 961, 962, 963, 964, 965, 966, 967, 968, 969, 970, 971, 911, 912, 913, 914, 915, 916, 917, 972, 973, 974, 975, 976, 977, 978, 979, 980, 981, 982, 983, 984, 985, 986, 987, 988, 989, 990, 991, 992, 993, 994] (by decide +kernel) (by decide +kernel)
set_option maxRecDepth 20000 in
theorem gL_law_X7_init : GoodIn wsL_law (wsX7_init) := ggL_law_X7_init
set_option maxRecDepth 20000 in
theorem ggL_law_X8_init : GoodIn wsL_law wsX8_init := goodIn_r _ [97, 98, 11, 12, 44, 99, 100, 101, 102, 103, 104, 105, 106, 107, 108, 109, 110, 6, 111, 112, 113, 114, 115, 116, 117, 118, 119, 120, 918, 919, 920, 921, 922, 923, 924, 925, 926, 927, 928, 929, 930, 931, 932, 933, 934, 935, 936, 937, 938, 939, 940, 941, 942, 943, 944, 945, 946, 947, 948, 949, 950, 951, 952] (by decide +kernel) (by decide +kernel)
set_option maxRecDepth 20000 in
theorem gL_law_X8_init : GoodIn wsL_law (wsX8_init) := ggL_law_X8_init
set_option maxRecDepth 20000 in
theorem ggL_law_X7_pin : GoodIn wsL_law wsX7_pin := goodIn_r _ [124, 19, 125, 126, 127, 128, 2, 129, 130, 131, 132, 15, 133, 134, 45, 135, 136, 137, 138, 911, 912, 913, 914, 915, 916, 917, 953, 954, 955, 956, 957, 958, 959, 960, 961, 962] (by decide +kernel) (by decide +kernel)
set_option maxRecDepth 20000 in
theorem gL_law_X7_pin : GoodIn wsL_law (wsV RL 49 RX7 yX7_pin wsX7_pin) := goodIn_app (goodIn_of _ (by decide +kernel)) ggL_law_X7_pin
set_option maxRecDepth 20000 in
theorem ggL_law_X8_pin : GoodIn wsL_law wsX8_pin := goodIn_r _ [142, 143, 144, 99, 100, 145, 146, 5, 147, 148, 149, 150, 151, 152, 153, 154, 155, 156, 918, 919, 920, 921, 922, 923, 924, 925, 926, 927, 928, 929, 930, 931, 932, 933, 934, 935, 936, 937, 938, 939, 940, 941, 942, 943, 944, 945, 946, 947, 948, 949, 950, 951, 952] (by decide +kernel) (by decide +kernel)
set_option maxRecDepth 20000 in
theorem gL_law_X8_pin : GoodIn wsL_law (wsV RL 52 RX8 yX8_pin wsX8_pin) := goodIn_app (goodIn_of _ (by decide +kernel)) ggL_law_X8_pin
set_option maxRecDepth 20000 in
theorem ggL_law_X7_place : GoodIn wsL_law wsX7_place := goodIn_r _ [160, 19, 161, 162, 163, 15, 164, 134, 126, 127, 128, 2, 129, 130, 131, 132, 133, 45, 135, 136, 137, 138, 911, 912, 913, 914, 915, 916, 917, 953, 954, 955, 956, 957, 958, 959, 960, 961, 962] (by decide +kernel) (by decide +kernel)
set_option maxRecDepth 20000 in
theorem gL_law_X7_place : GoodIn wsL_law (wsV RL 53 RX7 yX7_place wsX7_place) := goodIn_app (goodIn_of _ (by decide +kernel)) ggL_law_X7_place
set_option maxRecDepth 20000 in
theorem ggL_law_X8_place : GoodIn wsL_law wsX8_place := goodIn_r _ [168, 143, 99, 100, 169, 170, 171, 5, 172, 144, 150, 151, 152, 145, 146, 147, 148, 149, 153, 154, 155, 156, 918, 919, 920, 921, 922, 923, 924, 925, 926, 927, 928, 929, 930, 931, 932, 933, 934, 935, 936, 937, 938, 939, 940, 941, 942, 943, 944, 945, 946, 947, 948, 949, 950, 951, 952] (by decide +kernel) (by decide +kernel)
set_option maxRecDepth 20000 in
theorem gL_law_X8_place : GoodIn wsL_law (wsV RL 57 RX8 yX8_place wsX8_place) := goodIn_app (goodIn_of _ (by decide +kernel)) ggL_law_X8_place
set_option maxRecDepth 20000 in
theorem ggL_law_X7_bar : GoodIn wsL_law wsX7_bar := goodIn_r _ [176, 19, 177, 161, 162, 163, 15, 164, 134, 178, 179, 2, 180, 181, 182, 183, 184, 185, 49, 50, 186, 187, 188, 189, 51, 52, 190, 911, 912, 913, 914, 915, 916, 917, 953, 954, 955, 956, 957, 958, 959, 960, 961, 962] (by decide +kernel) (by decide +kernel)
set_option maxRecDepth 20000 in
theorem gL_law_X7_bar : GoodIn wsL_law (wsV RL 58 RX7 yX7_bar wsX7_bar) := goodIn_app (goodIn_of _ (by decide +kernel)) ggL_law_X7_bar
set_option maxRecDepth 20000 in
theorem ggL_law_X8_bar : GoodIn wsL_law wsX8_bar := goodIn_r _ [194, 143, 195, 148, 103, 104, 105, 106, 196, 169, 170, 171, 5, 172, 144, 150, 151, 152, 918, 919, 920, 921, 922, 923, 924, 925, 926, 927, 928, 929, 930, 931, 932, 933, 934, 935, 936, 937, 938, 939, 940, 941, 942, 943, 944, 945, 946, 947, 948, 949, 950, 951, 952] (by decide +kernel) (by decide +kernel)
set_option maxRecDepth 20000 in
theorem gL_law_X8_bar : GoodIn wsL_law (wsV RL 62 RX8 yX8_bar wsX8_bar) := goodIn_app (goodIn_of _ (by decide +kernel)) ggL_law_X8_bar
set_option maxRecDepth 20000 in
theorem ggL_law_X7_turn : GoodIn wsL_law wsX7_turn := goodIn_r _ [200, 19, 201, 202, 203, 204, 15, 205, 185, 206, 207, 208, 209, 190, 210, 211, 2, 212, 911, 912, 913, 914, 915, 916, 917, 953, 954, 955, 956, 957, 958, 959, 960, 961, 962] (by decide +kernel) (by decide +kernel)
set_option maxRecDepth 20000 in
theorem gL_law_X7_turn : GoodIn wsL_law (wsV RL 63 RX7 yX7_turn wsX7_turn) := goodIn_app (goodIn_of _ (by decide +kernel)) ggL_law_X7_turn
set_option maxRecDepth 20000 in
theorem ggL_law_X8_turn : GoodIn wsL_law wsX8_turn := goodIn_r _ [216, 143, 196, 217, 218, 219, 5, 220, 195, 150, 151, 152, 221, 222, 223, 918, 919, 920, 921, 922, 923, 924, 925, 926, 927, 928, 929, 930, 931, 932, 933, 934, 935, 936, 937, 938, 939, 940, 941, 942, 943, 944, 945, 946, 947, 948, 949, 950, 951, 952] (by decide +kernel) (by decide +kernel)
set_option maxRecDepth 20000 in
theorem gL_law_X8_turn : GoodIn wsL_law (wsV RL 67 RX8 yX8_turn wsX8_turn) := goodIn_app (goodIn_of _ (by decide +kernel)) ggL_law_X8_turn
