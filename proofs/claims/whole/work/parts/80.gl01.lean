set_option maxRecDepth 20000 in
theorem ggL_law_X7_alter : GoodIn wsL_law wsX7_alter := goodIn_r _ [227, 19, 228, 229, 202, 203, 204, 15, 205, 185, 178, 179, 2, 180, 911, 912, 913, 914, 915, 916, 917, 953, 954, 955, 956, 957, 958, 959, 960, 961, 962] (by decide +kernel) (by decide +kernel)
set_option maxRecDepth 20000 in
theorem gL_law_X7_alter : GoodIn wsL_law (wsV RL 68 RX7 yX7_alter wsX7_alter) := goodIn_app (goodIn_of _ (by decide +kernel)) ggL_law_X7_alter
set_option maxRecDepth 20000 in
theorem ggL_law_X8_alter : GoodIn wsL_law wsX8_alter := goodIn_r _ [233, 143, 234, 148, 106, 105, 217, 218, 219, 5, 220, 195, 150, 151, 152, 918, 919, 920, 921, 922, 923, 924, 925, 926, 927, 928, 929, 930, 931, 932, 933, 934, 935, 936, 937, 938, 939, 940, 941, 942, 943, 944, 945, 946, 947, 948, 949, 950, 951, 952] (by decide +kernel) (by decide +kernel)
set_option maxRecDepth 20000 in
theorem gL_law_X8_alter : GoodIn wsL_law (wsV RL 72 RX8 yX8_alter wsX8_alter) := goodIn_app (goodIn_of _ (by decide +kernel)) ggL_law_X8_alter
set_option maxRecDepth 20000 in
theorem ggL_law_X7_hold : GoodIn wsL_law wsX7_hold := goodIn_r _ [238, 19, 239, 161, 162, 163, 15, 164, 134, 240, 241, 2, 242, 911, 912, 913, 914, 915, 916, 917, 953, 954, 955, 956, 957, 958, 959, 960, 961, 962] (by decide +kernel) (by decide +kernel)
set_option maxRecDepth 20000 in
theorem gL_law_X7_hold : GoodIn wsL_law (wsV RL 73 RX7 yX7_hold wsX7_hold) := goodIn_app (goodIn_of _ (by decide +kernel)) ggL_law_X7_hold
set_option maxRecDepth 20000 in
theorem ggL_law_X8_hold : GoodIn wsL_law wsX8_hold := goodIn_r _ [246, 143, 101, 169, 170, 171, 5, 172, 144, 150, 151, 152, 221, 222, 223, 918, 919, 920, 921, 922, 923, 924, 925, 926, 927, 928, 929, 930, 931, 932, 933, 934, 935, 936, 937, 938, 939, 940, 941, 942, 943, 944, 945, 946, 947, 948, 949, 950, 951, 952] (by decide +kernel) (by decide +kernel)
set_option maxRecDepth 20000 in
theorem gL_law_X8_hold : GoodIn wsL_law (wsV RL 77 RX8 yX8_hold wsX8_hold) := goodIn_app (goodIn_of _ (by decide +kernel)) ggL_law_X8_hold
set_option maxRecDepth 20000 in
theorem ggL_law_X7_load : GoodIn wsL_law wsX7_load := goodIn_r _ [250, 19, 251, 161, 162, 163, 15, 164, 134, 252, 253, 2, 254, 911, 912, 913, 914, 915, 916, 917, 953, 954, 955, 956, 957, 958, 959, 960, 961, 962] (by decide +kernel) (by decide +kernel)
set_option maxRecDepth 20000 in
theorem gL_law_X7_load : GoodIn wsL_law (wsV RL 78 RX7 yX7_load wsX7_load) := goodIn_app (goodIn_of _ (by decide +kernel)) ggL_law_X7_load
set_option maxRecDepth 20000 in
theorem ggL_law_X8_load : GoodIn wsL_law wsX8_load := goodIn_r _ [258, 143, 259, 260, 102, 169, 170, 171, 5, 172, 144, 150, 151, 152, 918, 919, 920, 921, 922, 923, 924, 925, 926, 927, 928, 929, 930, 931, 932, 933, 934, 935, 936, 937, 938, 939, 940, 941, 942, 943, 944, 945, 946, 947, 948, 949, 950, 951, 952] (by decide +kernel) (by decide +kernel)
set_option maxRecDepth 20000 in
theorem gL_law_X8_load : GoodIn wsL_law (wsV RL 81 RX8 yX8_load wsX8_load) := goodIn_app (goodIn_of _ (by decide +kernel)) ggL_law_X8_load
set_option maxRecDepth 20000 in
theorem ggL_law_X7_unload : GoodIn wsL_law wsX7_unload := goodIn_r _ [264, 19, 251, 911, 912, 913, 914, 915, 916, 917, 953, 954, 955, 956, 957, 958, 959, 960, 961, 962] (by decide +kernel) (by decide +kernel)
set_option maxRecDepth 20000 in
theorem gL_law_X7_unload : GoodIn wsL_law (wsV RL 82 RX7 yX7_unload wsX7_unload) := goodIn_app (goodIn_of _ (by decide +kernel)) ggL_law_X7_unload
set_option maxRecDepth 20000 in
theorem ggL_law_X8_unload : GoodIn wsL_law wsX8_unload := goodIn_r _ [268, 143, 102, 918, 919, 920, 921, 922, 923, 924, 925, 926, 927, 928, 929, 930, 931, 932, 933, 934, 935, 936, 937, 938, 939, 940, 941, 942, 943, 944, 945, 946, 947, 948, 949, 950, 951, 952] (by decide +kernel) (by decide +kernel)
set_option maxRecDepth 20000 in
theorem gL_law_X8_unload : GoodIn wsL_law (wsV RL 86 RX8 yX8_unload wsX8_unload) := goodIn_app (goodIn_of _ (by decide +kernel)) ggL_law_X8_unload
set_option maxRecDepth 20000 in
theorem ggL_law_X7_deck : GoodIn wsL_law wsX7_deck := goodIn_r _ [272, 19, 36, 161, 162, 163, 15, 164, 134, 273, 274, 275, 35, 276, 277, 89, 911, 912, 913, 914, 915, 916, 917, 953, 954, 955, 956, 957, 958, 959, 960, 961, 962, 988, 989, 990, 991, 992] (by decide +kernel) (by decide +kernel)
set_option maxRecDepth 20000 in
theorem gL_law_X7_deck : GoodIn wsL_law (wsV RL 87 RX7 yX7_deck wsX7_deck) := goodIn_app (goodIn_of _ (by decide +kernel)) ggL_law_X7_deck
set_option maxRecDepth 20000 in
theorem ggL_law_X8_deck : GoodIn wsL_law wsX8_deck := goodIn_r _ [281, 143, 282, 107, 169, 170, 171, 5, 172, 144, 150, 151, 152, 918, 919, 920, 921, 922, 923, 924, 925, 926, 927, 928, 929, 930, 931, 932, 933, 934, 935, 936, 937, 938, 939, 940, 941, 942, 943, 944, 945, 946, 947, 948, 949, 950, 951, 952] (by decide +kernel) (by decide +kernel)
set_option maxRecDepth 20000 in
theorem gL_law_X8_deck : GoodIn wsL_law (wsV RL 91 RX8 yX8_deck wsX8_deck) := goodIn_app (goodIn_of _ (by decide +kernel)) ggL_law_X8_deck
