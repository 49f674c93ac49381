theorem goodIn_cons {big ws : List Cond} {c : Cond} (h1 : c ∈ big) (h2 : goodWord c = true) (h : GoodIn big ws) : GoodIn big (c :: ws) := fun w hw => (List.mem_cons.mp hw).elim (fun e => e ▸ ⟨h1, good_of_word h2⟩) (h w)
set_option maxRecDepth 20000 in
theorem ggL_law_X7_init : GoodIn wsL_law wsX7_init := goodIn_r _ [8, 9, 10, 11, 12, 13, 14, 15, 16, 17, 18, 19, 20, 21, 22, 23, 24, 25, 26, 27, 28, 29, 30, 31, 32, 33, 34, 35, 36, 37, 38, 39, 40, 41, 42, 43, 44, 45, 46, 47, 48, 49, 50, 51, 52, 53, 54, 55, 56, 57, 58, 59, 60, 61, 62, 63, 64, 65, 66, 67, 68, 69, 70, 71, 72, 73, 74, 75, 76, 77, 78, 79, 80, 81, 82, 83, 84, 85, 86, 87, 88, 89, 90, 91, 92, 93, 94, 493, 494, 495, 496, 497, 498, 499, 500, 501, 502, 503, 504, 505, 506, 507, 508, 509, 510, 511, 475, 476, 477, 478, 479, 480, 481, 512, 513, 514, 515, 516, 517, 518, 519, 520, 521, 522, 523, 524, 525, 526, 527, 528, 529, 530, 531, 532, 533, 534] (by decide +kernel) (by decide +kernel)
set_option maxRecDepth 20000 in
theorem gL_law_X7_init : GoodIn wsL_law (wsX7_init) := ggL_law_X7_init
set_option maxRecDepth 20000 in
theorem ggL_law_X7_count : GoodIn wsL_law wsX7_count := goodIn_r _ [98, 18, 99, 100, 101, 35, 102, 103, 27, 104, 105, 106, 107, 26, 108, 109, 110, 111, 112, 113, 114, 77, 115, 76, 116, 117, 118, 14, 119, 120, 121, 48, 49, 122, 2, 123, 124, 125, 126, 127, 128, 129, 130, 131, 132, 133, 134, 135, 136, 137, 138, 139, 140, 141, 142, 143, 144, 44, 145, 146, 147, 148, 149, 150, 151, 152, 19, 153, 154, 155, 156, 157, 158, 159, 17, 160, 161, 162, 163, 164, 165, 166, 167, 168, 169, 61, 170, 171, 59, 172, 173, 174, 175, 176, 58, 177, 178, 179, 180, 181, 182, 183, 184, 185, 60, 186, 187, 188, 189, 190, 191, 192, 193, 194, 195, 196, 197, 198, 199, 200, 201, 202, 203, 204, 475, 476, 477, 478, 479, 480, 481, 493, 494, 495, 496, 497, 498, 499, 500, 501, 502, 528, 529, 530, 531, 532, 519, 520, 521, 522, 503, 504, 505, 506, 507, 508, 509, 510, 511] (by decide +kernel) (by decide +kernel)
set_option maxRecDepth 20000 in
theorem gL_law_X7_count : GoodIn wsL_law (wsV RL 97 RX7 yX7_count wsX7_count) := goodIn_app (goodIn_of _ (by decide +kernel)) ggL_law_X7_count
set_option maxRecDepth 20000 in
theorem ggL_law_X7_painted : GoodIn wsL_law wsX7_painted := goodIn_r _ [208, 18, 101, 209, 100, 210, 211, 212, 2, 213, 19, 23, 157, 158, 159, 17, 160, 161, 162, 163, 164, 165, 166, 167, 168, 169, 61, 170, 171, 59, 172, 173, 174, 175, 176, 58, 177, 142, 143, 14, 144, 44, 49, 48, 178, 179, 180, 181, 122, 123, 182, 183, 184, 185, 60, 186, 187, 188, 189, 190, 191, 192, 193, 194, 195, 196, 197, 198, 199, 200, 201, 202, 203, 204, 130, 131, 132, 133, 134, 135, 214, 215, 216, 22, 217, 218, 70, 219, 71, 220, 221, 222, 223, 224, 225, 226, 68, 227, 228, 229, 230, 231, 232, 233, 234, 235, 236, 237, 238, 66, 239, 240, 241, 242, 243, 244, 245, 246, 69, 247, 248, 249, 250, 251, 252, 253, 254, 255, 256, 121, 257, 258, 259, 260, 120, 261, 262, 263, 264, 39, 265, 266, 267, 268, 269, 270, 271, 272, 273, 274, 275, 276, 277, 278, 279, 280, 281, 282, 283, 284, 285, 286, 38, 287, 288, 289, 290, 291, 292, 293, 475, 476, 477, 478, 479, 480, 481, 493, 494, 495, 496, 497, 498, 499, 500, 501, 502, 503, 504, 505, 506, 507, 508, 509, 510, 511, 512, 513, 514, 515, 516, 517, 518, 533, 534] (by decide +kernel) (by decide +kernel)
set_option maxRecDepth 20000 in
theorem gL_law_X7_painted : GoodIn wsL_law (wsV RL 147 RX7 yX7_painted wsX7_painted) := goodIn_app (goodIn_of _ (by decide +kernel)) ggL_law_X7_painted
set_option maxRecDepth 20000 in
theorem ggL_law_X7_pin : GoodIn wsL_law wsX7_pin := goodIn_r _ [297, 18, 99, 298, 299, 300, 2, 301, 302, 303, 304, 14, 305, 306, 44, 307, 308, 309, 310, 475, 476, 477, 478, 479, 480, 481, 493, 494, 495, 496, 497, 498, 499, 500, 501, 502] (by decide +kernel) (by decide +kernel)
set_option maxRecDepth 20000 in
theorem gL_law_X7_pin : GoodIn wsL_law (wsV RL 58 RX7 yX7_pin wsX7_pin) := goodIn_app (goodIn_of _ (by decide +kernel)) ggL_law_X7_pin
set_option maxRecDepth 20000 in
theorem ggL_law_X7_bar : GoodIn wsL_law wsX7_bar := goodIn_r _ [314, 18, 100, 315, 316, 317, 14, 318, 306, 319, 320, 2, 321, 322, 323, 324, 325, 120, 48, 49, 326, 327, 328, 329, 50, 51, 121, 475, 476, 477, 478, 479, 480, 481, 493, 494, 495, 496, 497, 498, 499, 500, 501, 502] (by decide +kernel) (by decide +kernel)
set_option maxRecDepth 20000 in
theorem gL_law_X7_bar : GoodIn wsL_law (wsV RL 81 RX7 yX7_bar wsX7_bar) := goodIn_app (goodIn_of _ (by decide +kernel)) ggL_law_X7_bar
set_option maxRecDepth 20000 in
theorem ggL_law_X8_init : GoodIn wsL_law wsX8_init := goodIn_r _ [332, 333, 10, 11, 334, 482] (by decide +kernel) (by decide +kernel)
set_option maxRecDepth 20000 in
theorem gL_law_X8_init : GoodIn wsL_law (wsX8_init) := ggL_law_X8_init
