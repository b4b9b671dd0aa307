set_option maxRecDepth 20000 in
theorem gL_law_L_isWay : GoodIn wsL_law (va_wsS RL 85 yL_isWay wsL_isWay) := goodIn_app (goodIn_of _ (by decide +kernel)) ggL_law_L_isWay
set_option maxRecDepth 20000 in
theorem ggL_law_L_plus : GoodIn wsL_law wsL_plus := goodIn_r _ [430, 136, 137, 132, 138] (by decide +kernel) (by decide +kernel)
set_option maxRecDepth 20000 in
theorem gL_law_L_plus : GoodIn wsL_law (va_wsS RL 89 yL_plus wsL_plus) := goodIn_app (goodIn_of _ (by decide +kernel)) ggL_law_L_plus
set_option maxRecDepth 20000 in
theorem ggL_law_X6_dimension : GoodIn wsL_law wsX6_dimension := goodIn_ca (goodIn_r _ [434, 21, 25, 259, 17, 435, 436, 2, 437, 152, 153, 166, 167, 168, 438, 439, 440, 20, 441, 442, 443, 406, 91, 92, 24, 93, 63, 94, 95, 96, 97, 98, 69, 60, 74, 75, 76, 12, 77, 42, 444, 373, 374, 16, 375, 48, 47, 376, 377, 104, 105, 106, 107, 108, 109, 110, 111, 112, 113, 114, 115, 116, 117, 118, 84, 85, 378, 379, 380, 381, 382, 383, 384, 385, 82, 83, 386, 445, 446, 447, 448, 449, 450, 451, 452, 453, 53, 54, 454, 455, 456, 457, 458, 459, 460, 461, 462, 463, 464, 465, 466, 467, 468, 469, 470, 471, 472, 473, 474, 475, 267, 268, 269, 504, 505, 506, 507, 508, 509, 510, 511, 512, 513, 514, 515, 524, 525, 526, 527, 528, 529, 520, 521, 522, 523, 537, 538, 516, 517, 518, 519] (by decide +kernel) (by decide +kernel)) (goodIn_sub (fun _ h => List.mem_append_left _ (List.mem_append_left _ (List.mem_append_right _ h))) (by decide +kernel))
set_option maxRecDepth 20000 in
theorem gL_law_X6_dimension : GoodIn wsL_law (wsV RL 92 RX6 yX6_dimension wsX6_dimension) := goodIn_app (goodIn_of _ (by decide +kernel)) ggL_law_X6_dimension
set_option maxRecDepth 20000 in
theorem ggL_law_X6_dimensionAnew : GoodIn wsL_law wsX6_dimensionAnew := goodIn_ca (goodIn_r _ [479, 13, 25, 435, 436, 2, 437, 152, 153, 166, 167, 168, 169, 108, 109, 12, 110, 42, 208, 209, 210, 24, 211, 69, 212, 213, 214, 215, 95, 96, 97, 98, 60, 216, 217, 218, 219, 220, 221, 222, 82, 83, 480, 481, 482, 483, 107, 504, 505, 506, 507, 508, 509, 510, 511, 512, 513, 514, 515, 516, 524, 525, 526, 527, 528, 529, 537, 538] (by decide +kernel) (by decide +kernel)) (goodIn_sub (fun _ h => List.mem_append_left _ (List.mem_append_left _ (List.mem_append_right _ h))) (by decide +kernel))
set_option maxRecDepth 20000 in
theorem gL_law_X6_dimensionAnew : GoodIn wsL_law (wsV RL 95 RX6 yX6_dimensionAnew wsX6_dimensionAnew) := goodIn_app (goodIn_of _ (by decide +kernel)) ggL_law_X6_dimensionAnew
set_option maxRecDepth 20000 in
theorem ggL_law_X6_orbits : GoodIn wsL_law wsX6_orbits := goodIn_ca (goodIn_r _ [487, 13, 29, 435, 436, 2, 437, 152, 153, 166, 167, 168, 169, 108, 109, 12, 110, 42, 488, 228, 229, 28, 230, 124, 231, 71, 72, 73, 489, 243, 244, 245, 82, 83, 490, 233, 234, 235, 236, 125, 129, 237, 128, 238, 239, 240, 241, 126, 127, 242, 84, 85, 246, 213, 214, 24, 215, 95, 96, 97, 98, 69, 60, 216, 217, 218, 219, 220, 221, 222, 504, 505, 506, 507, 508, 509, 510, 511, 512, 513, 514, 515, 516, 530, 531, 532, 533, 534, 535, 536, 524, 525, 526, 527, 528, 529, 537, 538] (by decide +kernel) (by decide +kernel)) (goodIn_sub (fun _ h => List.mem_append_left _ (List.mem_append_left _ (List.mem_append_right _ h))) (by decide +kernel))
set_option maxRecDepth 20000 in
theorem gL_law_X6_orbits : GoodIn wsL_law (wsV RL 98 RX6 yX6_orbits wsX6_orbits) := goodIn_app (goodIn_of _ (by decide +kernel)) ggL_law_X6_orbits
set_option maxRecDepth 20000 in
theorem ggL_law_X6_orbitsAnew : GoodIn wsL_law wsX6_orbitsAnew := goodIn_ca (goodIn_r _ [494, 36, 25, 265, 435, 436, 2, 437, 152, 153, 166, 167, 168, 182, 82, 83, 495, 496, 497, 498, 17, 21, 13, 499, 87, 88, 24, 89, 61, 444, 373, 374, 16, 375, 48, 47, 376, 377, 104, 105, 12, 106, 107, 108, 109, 110, 42, 111, 112, 113, 114, 115, 116, 117, 118, 84, 85, 378, 379, 380, 381, 382, 383, 384, 385, 386, 438, 439, 440, 20, 441, 442, 443, 445, 446, 447, 448, 449, 450, 451, 452, 453, 53, 54, 454, 455, 456, 457, 458, 459, 460, 461, 462, 463, 464, 465, 466, 467, 468, 469, 470, 471, 472, 473, 474, 475, 267, 268, 269, 169, 170, 504, 505, 506, 507, 508, 509, 510, 511, 512, 513, 514, 515, 524, 525, 526, 527, 528, 529, 517, 518, 519, 516, 520, 521, 522, 523] (by decide +kernel) (by decide +kernel)) (goodIn_sub (fun _ h => List.mem_append_left _ (List.mem_append_left _ (List.mem_append_right _ h))) (by decide +kernel))
set_option maxRecDepth 20000 in
theorem gL_law_X6_orbitsAnew : GoodIn wsL_law (wsV RL 101 RX6 yX6_orbitsAnew wsX6_orbitsAnew) := goodIn_app (goodIn_of _ (by decide +kernel)) ggL_law_X6_orbitsAnew
set_option maxRecDepth 20000 in
theorem ggL_law_X6_order : GoodIn wsL_law wsX6_order := goodIn_r _ [503, 25, 265, 504, 505, 506, 507, 508, 509, 510, 511, 512, 513, 514, 515, 524, 525, 526, 527, 528, 529] (by decide +kernel) (by decide +kernel)
set_option maxRecDepth 20000 in
theorem gL_law_X6_order : GoodIn wsL_law (wsV RL 104 RX6 yX6_order wsX6_order) := goodIn_app (goodIn_of _ (by decide +kernel)) ggL_law_X6_order
