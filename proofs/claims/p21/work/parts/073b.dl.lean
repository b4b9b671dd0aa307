set_option maxRecDepth 100000 in
theorem ggw_0 : GoodIn wsL_law [.code yL_isWay cL_isWay 7 (some .boolean)] := goodIn_r _ [427] (by decide +kernel) (by decide +kernel)
set_option maxRecDepth 100000 in
theorem ggw_1 : GoodIn wsL_law wsL_isWay_r1 := goodIn_r _ [171, 172, 173, 2, 174, 152, 153, 31, 32, 25, 29, 175, 176, 177, 178, 179, 180, 181, 37, 182, 82, 83, 183, 184] (by decide +kernel) (by decide +kernel)
set_option maxRecDepth 100000 in
theorem ggw_2 : GoodIn wsL_law wsL_isWay_r2 := goodIn_r _ [185, 186, 13, 154, 187, 188, 189, 190, 33, 191, 192, 193, 12, 194, 42, 111, 112, 113, 114, 115, 116, 117, 118, 84] (by decide +kernel) (by decide +kernel)
set_option maxRecDepth 100000 in
theorem ggw_3 : GoodIn wsL_law wsL_isWay_r3 := goodIn_r _ [85, 195, 196, 197, 198, 170, 199, 200, 201, 202, 203, 204, 205, 206, 207, 208, 209, 210, 24, 211, 69, 212, 213, 214] (by decide +kernel) (by decide +kernel)
set_option maxRecDepth 100000 in
theorem ggw_4 : GoodIn wsL_law wsL_isWay_r4 := goodIn_r _ [215, 95, 96, 97, 98, 60, 216, 217, 218, 219, 220, 221, 222, 223, 224, 225, 28, 226, 227, 228, 229, 230, 124, 231] (by decide +kernel) (by decide +kernel)
set_option maxRecDepth 100000 in
theorem ggw_5 : GoodIn wsL_law wsL_isWay_r5 := goodIn_r _ [71, 72, 73, 232, 233, 234, 235, 236, 125, 129, 237, 128, 238, 239, 240, 241, 126, 127, 242, 243, 244, 245, 246, 247] (by decide +kernel) (by decide +kernel)
set_option maxRecDepth 100000 in
theorem ggw_6 : GoodIn wsL_law wsL_isWay_r6 := goodIn_r _ [248, 249, 250, 251, 252, 253, 254, 139, 140, 132, 141, 142, 143, 144, 145, 146, 147, 148, 149, 150, 151, 36, 155, 156] (by decide +kernel) (by decide +kernel)
set_option maxRecDepth 100000 in
theorem ggw_7 : GoodIn wsL_law wsL_isWay_r7 := goodIn_r _ [157, 158, 64, 65, 66, 67, 62, 68, 63, 70, 74, 75, 76, 77, 78, 79, 80, 81, 61, 86, 87, 88, 89, 90] (by decide +kernel) (by decide +kernel)
set_option maxRecDepth 100000 in
theorem ggw_8 : GoodIn wsL_law wsL_isWay_r8 := goodIn_r _ [91, 92, 93, 94, 99, 100, 101, 102, 103, 104, 105, 106, 107, 108, 109, 110, 119, 159, 160, 161, 162, 163, 164, 165] (by decide +kernel) (by decide +kernel)
set_option maxRecDepth 100000 in
theorem ggw_9 : GoodIn wsL_law wsL_isWay_r9 := goodIn_r _ [166, 167, 168, 169, 255, 256, 257, 258, 259, 260, 261, 262, 263, 264, 265, 266, 267, 268, 269, 270, 271, 272, 273, 274] (by decide +kernel) (by decide +kernel)
