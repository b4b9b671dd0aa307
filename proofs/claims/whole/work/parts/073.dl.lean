set_option maxRecDepth 20000 in
theorem ggL_law_X6_init : GoodIn wsL_law wsX6_init := goodIn_r _ [9, 10, 11, 12, 13, 14, 15, 16, 17, 18, 19, 20, 21, 22, 23, 24, 25, 26, 27, 28, 29, 30, 31, 32, 33, 34, 35, 36, 37, 38, 39, 40, 41, 42, 43, 44, 45, 46, 47, 48, 49, 50, 51, 52, 53, 54, 55, 56, 57, 58, 59, 60, 61, 62, 63, 64, 65, 66, 67, 68, 69, 70, 71, 72, 73, 74, 75, 76, 77, 78, 79, 80, 81, 82, 83, 84, 85, 2, 86, 87, 88, 89, 90, 91, 92, 93, 94, 95, 96, 97, 98, 99, 100, 101, 102, 103, 104, 105, 106, 107, 108, 109, 110, 111, 112, 113, 114, 115, 116, 117, 118, 119, 120, 121, 122, 123, 124, 125, 126, 127, 128, 129, 130, 131, 132, 822, 788, 789, 790, 791, 792, 793, 794, 795, 796, 797, 798, 799, 823, 824, 825, 826, 827, 828, 829, 830, 831, 832, 833, 834, 835, 836, 837, 838, 839, 840, 841, 842, 843, 844] (by decide +kernel) (by decide +kernel)
set_option maxRecDepth 20000 in
theorem gL_law_X6_init : GoodIn wsL_law (wsX6_init) := ggL_law_X6_init
set_option maxRecDepth 20000 in
theorem ggL_law_X7_init : GoodIn wsL_law wsX7_init := goodIn_r _ [135, 136, 11, 12, 137, 33, 138, 139, 140, 141, 142, 143, 144, 145, 146, 147, 148, 149, 150, 151, 152, 153, 800, 801, 802, 803, 804, 805, 806, 807, 808, 809, 810, 811, 812, 813, 814, 815, 816, 817, 818, 819, 820, 821] (by decide +kernel) (by decide +kernel)
set_option maxRecDepth 20000 in
theorem gL_law_X7_init : GoodIn wsL_law (wsX7_init) := ggL_law_X7_init
set_option maxRecDepth 20000 in
theorem ggL_law_L_prime : GoodIn wsL_law wsL_prime := goodIn_ca (goodIn_r _ [157, 158, 159, 160, 161, 2, 162, 163, 164, 16, 165, 40, 28, 39, 166, 167, 168, 27, 169, 72, 67, 68, 69, 70, 65, 71, 66, 73, 74, 75, 76, 77, 78, 79, 15, 80, 45, 81, 82, 83, 84, 64, 85, 86, 87, 88, 89, 90, 91, 92, 93, 94, 95, 96, 97, 98, 99, 100, 101, 63, 102, 103, 104, 105, 106, 107, 108, 109, 110, 111, 112, 113, 114, 115, 116, 117, 118, 119, 120, 121, 122, 170, 788, 789, 790, 791, 792, 793, 794, 795, 796, 797, 798, 799, 822, 830, 831, 832, 833, 834, 835, 843, 844] (by decide +kernel) (by decide +kernel)) (goodIn_sub (fun _ h => List.mem_append_left _ (List.mem_append_left _ (List.mem_append_right _ h))) (by decide +kernel))
set_option maxRecDepth 20000 in
theorem gL_law_L_prime : GoodIn wsL_law (va_wsS RL 71 yL_prime wsL_prime) := goodIn_app (goodIn_of _ (by decide +kernel)) ggL_law_L_prime
set_option maxRecDepth 20000 in
theorem ggL_law_X7_prime : GoodIn wsL_law wsX7_prime := goodIn_r _ [174, 137, 175, 176, 177, 178, 179, 5, 180, 181, 800, 801, 802, 803, 804, 805, 806, 807, 808, 809, 810, 811, 812, 813, 814, 815, 816, 817, 818, 819, 820, 821] (by decide +kernel) (by decide +kernel)
set_option maxRecDepth 20000 in
theorem gL_law_X7_prime : GoodIn wsL_law (wsV RL 76 RX7 yX7_prime wsX7_prime) := goodIn_app (goodIn_of _ (by decide +kernel)) ggL_law_X7_prime
set_option maxRecDepth 20000 in
theorem ggL_law_X7_thrown : GoodIn wsL_law wsX7_thrown := goodIn_r _ [185, 181, 800, 801, 802, 803, 804, 805, 806, 807, 808, 809, 810, 811, 812, 813, 814, 815, 816, 817, 818, 819, 820, 821] (by decide +kernel) (by decide +kernel)
set_option maxRecDepth 20000 in
theorem gL_law_X7_thrown : GoodIn wsL_law (wsV RL 77 RX7 yX7_thrown wsX7_thrown) := goodIn_app (goodIn_of _ (by decide +kernel)) ggL_law_X7_thrown
set_option maxRecDepth 20000 in
theorem ggL_law_L_form : GoodIn wsL_law wsL_form := goodIn_ca (goodIn_ca (goodIn_r _ [188, 158, 189, 190, 191, 192, 2, 193, 163, 164, 194, 195, 16, 40, 34, 35, 196, 197, 198, 199, 111, 112, 15, 113, 45, 200, 87, 88, 788, 789, 790, 791, 792, 793, 794, 795, 796, 797, 798, 799, 822] (by decide +kernel) (by decide +kernel)) (goodIn_sub (fun _ h => List.mem_append_left _ (List.mem_append_left _ (List.mem_append_right _ h))) (by decide +kernel))) (goodIn_sub (fun _ h => List.mem_append_left _ (List.mem_append_right _ h)) (by decide +kernel))
set_option maxRecDepth 20000 in
theorem gL_law_L_form : GoodIn wsL_law (va_wsS RL 81 yL_form wsL_form) := goodIn_app (goodIn_of _ (by decide +kernel)) ggL_law_L_form
set_option maxRecDepth 20000 in
theorem ggL_law_X7_form : GoodIn wsL_law wsX7_form := goodIn_r _ [204, 175, 138, 139, 205, 206, 207, 5, 208, 209, 210, 211, 212, 213, 214, 215, 137, 177, 178, 179, 180, 181, 800, 801, 802, 803, 804, 805, 806, 807, 808, 809, 810, 811, 812, 813, 814, 815, 816, 817, 818, 819, 820, 821] (by decide +kernel) (by decide +kernel)
set_option maxRecDepth 20000 in
theorem gL_law_X7_form : GoodIn wsL_law (wsV RL 84 RX7 yX7_form wsX7_form) := goodIn_app (goodIn_of _ (by decide +kernel)) ggL_law_X7_form
set_option maxRecDepth 20000 in
theorem ggL_law_L_formIs : GoodIn wsL_law wsL_formIs := goodIn_ca (goodIn_ca (goodIn_r _ [218, 219, 158, 220, 221, 222, 2, 223, 163, 164, 34, 35, 28, 32, 224, 225, 226, 227, 228, 229, 230, 40, 231, 85, 86, 232, 233, 234, 235, 16, 165, 236, 237, 238, 239, 36, 240, 241, 242, 15, 243, 45, 114, 115, 116, 117, 118, 119, 120, 121, 87, 88, 244, 245, 246, 247, 200, 248, 249, 250, 251, 252, 253, 254, 255, 256, 257, 258, 259, 27, 260, 72, 261, 262, 263, 264, 98, 99, 100, 101, 63, 265, 266, 267, 268, 269, 270, 271, 272, 273, 274, 31, 275, 276, 277, 278, 279, 127, 280, 74, 75, 76, 281, 282, 283, 284, 285, 128, 132, 286, 131, 287, 288, 289, 290, 129, 130, 291, 292, 293, 294, 295, 296, 297, 298, 299, 300, 301, 302, 303, 788, 789, 790, 791, 792, 793, 794, 795, 796, 797, 798, 799, 836, 837, 838, 839, 840, 841, 842, 822, 830, 831, 832, 833, 834, 835, 843, 844] (by decide +kernel) (by decide +kernel)) (goodIn_sub (fun _ h => List.mem_append_left _ (List.mem_append_left _ (List.mem_append_right _ h))) (by decide +kernel))) (goodIn_sub (fun _ h => List.mem_append_right _ h) (by decide +kernel))
set_option maxRecDepth 20000 in
theorem gL_law_L_formIs : GoodIn wsL_law (va_wsS RL 85 yL_formIs wsL_formIs) := goodIn_app (goodIn_of _ (by decide +kernel)) ggL_law_L_formIs
set_option maxRecDepth 20000 in
theorem ggL_law_X7_formIs : GoodIn wsL_law wsX7_formIs := goodIn_r _ [307, 308, 309, 310, 5, 311, 175, 209, 210, 211, 177, 178, 179, 180, 181, 312, 313, 314, 315, 138, 139, 316, 317, 318, 319, 137, 320, 321, 322, 323, 146, 324, 325, 326, 327, 212, 213, 214, 215, 328, 329, 330, 331, 332, 333, 334, 335, 336, 337, 338, 339, 176, 340, 341, 342, 343, 344, 345, 346, 347, 140, 348, 349, 350, 351, 144, 352, 353, 354, 355, 356, 357, 358, 359, 360, 361, 362, 363, 364, 152, 153, 150, 151, 365, 366, 367, 368, 800, 801, 802, 803, 804, 805, 806, 807, 808, 809, 810, 811, 812, 813, 814, 815, 816, 817, 818, 819, 820, 821] (by decide +kernel) (by decide +kernel)
set_option maxRecDepth 20000 in
theorem gL_law_X7_formIs : GoodIn wsL_law (wsV RL 87 RX7 yX7_formIs wsX7_formIs) := goodIn_app (goodIn_of _ (by decide +kernel)) ggL_law_X7_formIs
set_option maxRecDepth 20000 in
theorem ggL_law_L_at : GoodIn wsL_law wsL_at := goodIn_ca (goodIn_ca (goodIn_r _ [371, 219, 158, 372, 373, 374, 2, 375, 163, 164, 16, 34, 35, 36, 225, 226, 227, 228, 229, 230, 40, 376, 377, 378, 15, 379, 45, 231, 85, 86, 240, 241, 242, 243, 114, 115, 116, 117, 118, 119, 120, 121, 87, 88, 380, 381, 382, 383, 252, 788, 789, 790, 791, 792, 793, 794, 795, 796, 797, 798, 799, 822] (by decide +kernel) (by decide +kernel)) (goodIn_sub (fun _ h => List.mem_append_left _ (List.mem_append_left _ (List.mem_append_right _ h))) (by decide +kernel))) (goodIn_sub (fun _ h => List.mem_append_right _ h) (by decide +kernel))
set_option maxRecDepth 20000 in
theorem gL_law_L_at : GoodIn wsL_law (va_wsS RL 88 yL_at wsL_at) := goodIn_app (goodIn_of _ (by decide +kernel)) ggL_law_L_at
set_option maxRecDepth 20000 in
theorem ggL_law_X7_at : GoodIn wsL_law wsX7_at := goodIn_r _ [387, 308, 309, 310, 5, 311, 175, 209, 210, 211, 388, 389, 390, 391, 137, 177, 178, 179, 180, 181, 392, 393, 394, 395, 138, 139, 324, 325, 326, 327, 212, 213, 214, 215, 328, 329, 330, 331, 800, 801, 802, 803, 804, 805, 806, 807, 808, 809, 810, 811, 812, 813, 814, 815, 816, 817, 818, 819, 820, 821] (by decide +kernel) (by decide +kernel)
set_option maxRecDepth 20000 in
theorem gL_law_X7_at : GoodIn wsL_law (wsV RL 91 RX7 yX7_at wsX7_at) := goodIn_app (goodIn_of _ (by decide +kernel)) ggL_law_X7_at
set_option maxRecDepth 20000 in
theorem ggL_law_L_multiplicity : GoodIn wsL_law wsL_multiplicity := goodIn_ca (goodIn_r _ [398, 219, 399, 400, 401, 2, 402, 229, 230, 16, 165, 34, 35, 225, 226, 227, 228, 40, 231, 85, 86, 236, 237, 238, 239, 36, 240, 241, 242, 15, 243, 45, 114, 115, 116, 117, 118, 119, 120, 121, 87, 88, 244, 245, 246, 247, 200, 248, 249, 250, 251, 252, 788, 789, 790, 791, 792, 793, 794, 795, 796, 797, 798, 799, 822] (by decide +kernel) (by decide +kernel)) (goodIn_sub (fun _ h => List.mem_append_right _ h) (by decide +kernel))
set_option maxRecDepth 20000 in
theorem gL_law_L_multiplicity : GoodIn wsL_law (va_wsS RL 92 yL_multiplicity wsL_multiplicity) := goodIn_app (goodIn_of _ (by decide +kernel)) ggL_law_L_multiplicity
set_option maxRecDepth 20000 in
theorem ggL_law_X7_multiplicity : GoodIn wsL_law wsX7_multiplicity := goodIn_r _ [406, 137, 308, 309, 310, 5, 311, 175, 209, 210, 211, 177, 178, 179, 180, 181, 320, 321, 322, 323, 138, 139, 146, 324, 325, 326, 327, 212, 213, 214, 215, 328, 329, 330, 331, 800, 801, 802, 803, 804, 805, 806, 807, 808, 809, 810, 811, 812, 813, 814, 815, 816, 817, 818, 819, 820, 821] (by decide +kernel) (by decide +kernel)
set_option maxRecDepth 20000 in
theorem gL_law_X7_multiplicity : GoodIn wsL_law (wsV RL 94 RX7 yX7_multiplicity wsX7_multiplicity) := goodIn_app (goodIn_of _ (by decide +kernel)) ggL_law_X7_multiplicity
set_option maxRecDepth 20000 in
theorem ggL_law_L_generator : GoodIn wsL_law wsL_generator := goodIn_ca (goodIn_ca (goodIn_r _ [409, 158, 189, 410, 411, 412, 2, 413, 163, 164, 194, 195, 16, 28, 414, 20, 39, 376, 377, 378, 15, 379, 45, 252, 115, 116, 117, 118, 119, 120, 121, 415, 416, 417, 27, 418, 72, 63, 62, 419, 268, 66, 420, 421, 422, 11, 12, 33, 270, 77, 78, 79, 80, 423, 424, 425, 426, 427, 428, 429, 430, 19, 431, 51, 50, 432, 433, 107, 108, 109, 110, 111, 112, 113, 114, 87, 88, 434, 435, 436, 437, 438, 439, 440, 441, 85, 86, 442, 443, 444, 445, 446, 271, 447, 448, 449, 450, 451, 452, 453, 454, 455, 456, 67, 68, 69, 70, 65, 71, 73, 74, 75, 76, 81, 82, 83, 84, 64, 89, 90, 91, 92, 93, 94, 95, 96, 97, 98, 99, 100, 101, 102, 103, 104, 105, 106, 122, 170, 788, 789, 790, 791, 792, 793, 794, 795, 796, 797, 798, 799, 830, 831, 832, 833, 834, 835, 822, 843, 844, 823, 824, 825] (by decide +kernel) (by decide +kernel)) (goodIn_sub (fun _ h => List.mem_append_left _ (List.mem_append_left _ (List.mem_append_right _ h))) (by decide +kernel))) (goodIn_sub (fun _ h => List.mem_append_left _ (List.mem_append_right _ h)) (by decide +kernel))
set_option maxRecDepth 20000 in
theorem gL_law_L_generator : GoodIn wsL_law (va_wsS RL 95 yL_generator wsL_generator) := goodIn_app (goodIn_of _ (by decide +kernel)) ggL_law_L_generator
set_option maxRecDepth 20000 in
theorem ggL_law_X7_generator : GoodIn wsL_law wsX7_generator := goodIn_r _ [460, 176, 140, 388, 389, 390, 5, 391, 137, 209, 210, 211, 328, 329, 330, 331, 177, 178, 179, 180, 181, 800, 801, 802, 803, 804, 805, 806, 807, 808, 809, 810, 811, 812, 813, 814, 815, 816, 817, 818, 819, 820, 821] (by decide +kernel) (by decide +kernel)
set_option maxRecDepth 20000 in
theorem gL_law_X7_generator : GoodIn wsL_law (wsV RL 98 RX7 yX7_generator wsX7_generator) := goodIn_app (goodIn_of _ (by decide +kernel)) ggL_law_X7_generator
set_option maxRecDepth 20000 in
theorem ggL_law_X6_order : GoodIn wsL_law wsX6_order := goodIn_r _ [464, 28, 465, 788, 789, 790, 791, 792, 793, 794, 795, 796, 797, 798, 799, 830, 831, 832, 833, 834, 835] (by decide +kernel) (by decide +kernel)
set_option maxRecDepth 20000 in
theorem gL_law_X6_order : GoodIn wsL_law (wsV RL 99 RX6 yX6_order wsX6_order) := goodIn_app (goodIn_of _ (by decide +kernel)) ggL_law_X6_order
set_option maxRecDepth 20000 in
theorem ggL_law_X7_order : GoodIn wsL_law wsX7_order := goodIn_r _ [469, 181, 470, 471, 472, 473, 5, 474, 142, 137, 176, 143, 475, 476, 477, 478, 479, 480, 481, 482, 140, 324, 325, 326, 327, 212, 213, 214, 215, 328, 329, 330, 331, 800, 801, 802, 803, 804, 805, 806, 807, 808, 809, 810, 811, 812, 813, 814, 815, 816, 817, 818, 819, 820, 821] (by decide +kernel) (by decide +kernel)
set_option maxRecDepth 20000 in
theorem gL_law_X7_order : GoodIn wsL_law (wsV RL 102 RX7 yX7_order wsX7_order) := goodIn_app (goodIn_of _ (by decide +kernel)) ggL_law_X7_order
set_option maxRecDepth 20000 in
theorem ggL_law_L_changed : GoodIn wsL_law wsL_changed := goodIn_ca (goodIn_r _ [485, 219, 486, 487, 488, 2, 489, 229, 230, 28, 414, 34, 35, 225, 226, 227, 228, 40, 231, 85, 86, 490, 262, 263, 27, 264, 98, 99, 100, 101, 72, 63, 265, 266, 267, 268, 269, 270, 271, 788, 789, 790, 791, 792, 793, 794, 795, 796, 797, 798, 799, 830, 831, 832, 833, 834, 835, 843, 844] (by decide +kernel) (by decide +kernel)) (goodIn_sub (fun _ h => List.mem_append_right _ h) (by decide +kernel))
set_option maxRecDepth 20000 in
theorem gL_law_L_changed : GoodIn wsL_law (va_wsS RL 103 yL_changed wsL_changed) := goodIn_app (goodIn_of _ (by decide +kernel)) ggL_law_L_changed
set_option maxRecDepth 20000 in
theorem ggL_law_X7_changed : GoodIn wsL_law wsX7_changed := goodIn_r _ [494, 176, 308, 309, 310, 5, 311, 175, 209, 210, 211, 177, 178, 179, 180, 181, 340, 341, 342, 343, 138, 139, 344, 345, 346, 347, 140, 137, 348, 349, 350, 351, 146, 144, 324, 325, 326, 327, 212, 213, 214, 215, 328, 329, 330, 331, 352, 353, 354, 355, 800, 801, 802, 803, 804, 805, 806, 807, 808, 809, 810, 811, 812, 813, 814, 815, 816, 817, 818, 819, 820, 821] (by decide +kernel) (by decide +kernel)
set_option maxRecDepth 20000 in
theorem gL_law_X7_changed : GoodIn wsL_law (wsV RL 105 RX7 yX7_changed wsX7_changed) := goodIn_app (goodIn_of _ (by decide +kernel)) ggL_law_X7_changed
set_option maxRecDepth 20000 in
theorem ggL_law_L_average : GoodIn wsL_law wsL_average := goodIn_ca (goodIn_r _ [497, 219, 498, 499, 500, 2, 501, 16, 28, 465, 32, 34, 35, 224, 225, 226, 227, 228, 229, 230, 40, 502, 503, 504, 15, 505, 45, 114, 115, 116, 117, 118, 119, 120, 121, 231, 85, 86, 272, 273, 274, 31, 275, 276, 277, 278, 279, 127, 280, 74, 75, 76, 281, 282, 283, 284, 285, 128, 132, 286, 131, 287, 288, 289, 290, 129, 130, 291, 292, 293, 294, 87, 88, 295, 262, 263, 27, 264, 98, 99, 100, 101, 72, 63, 265, 266, 267, 268, 269, 270, 271, 506, 507, 508, 509, 510, 511, 454, 455, 456, 252, 512, 513, 514, 515, 516, 788, 789, 790, 791, 792, 793, 794, 795, 796, 797, 798, 799, 830, 831, 832, 833, 834, 835, 836, 837, 838, 839, 840, 841, 842, 822, 843, 844] (by decide +kernel) (by decide +kernel)) (goodIn_sub (fun _ h => List.mem_append_right _ h) (by decide +kernel))
set_option maxRecDepth 20000 in
theorem gL_law_L_average : GoodIn wsL_law (va_wsS RL 106 yL_average wsL_average) := goodIn_app (goodIn_of _ (by decide +kernel)) ggL_law_L_average
set_option maxRecDepth 20000 in
theorem ggL_law_X7_average : GoodIn wsL_law wsX7_average := goodIn_r _ [520, 308, 309, 310, 5, 311, 175, 209, 210, 211, 177, 178, 179, 180, 181, 521, 522, 523, 524, 138, 470, 149, 143, 139, 137, 471, 472, 473, 474, 142, 176, 475, 476, 477, 478, 479, 480, 481, 482, 140, 324, 325, 326, 327, 212, 213, 214, 215, 328, 329, 330, 331, 525, 526, 527, 528, 348, 349, 350, 351, 146, 144, 352, 353, 354, 355, 800, 801, 802, 803, 804, 805, 806, 807, 808, 809, 810, 811, 812, 813, 814, 815, 816, 817, 818, 819, 820, 821] (by decide +kernel) (by decide +kernel)
set_option maxRecDepth 20000 in
theorem gL_law_X7_average : GoodIn wsL_law (wsV RL 108 RX7 yX7_average wsX7_average) := goodIn_app (goodIn_of _ (by decide +kernel)) ggL_law_X7_average
set_option maxRecDepth 20000 in
theorem ggL_law_L_dimension : GoodIn wsL_law wsL_dimension := goodIn_ca (goodIn_r _ [531, 158, 532, 533, 534, 2, 535, 24, 28, 414, 20, 536, 537, 538, 163, 164, 196, 197, 198, 539, 540, 541, 23, 542, 543, 544, 545, 94, 95, 27, 96, 66, 97, 98, 99, 100, 101, 72, 63, 77, 78, 79, 15, 80, 45, 546, 429, 430, 19, 431, 51, 50, 432, 433, 107, 108, 109, 110, 111, 112, 113, 114, 115, 116, 117, 118, 119, 120, 121, 87, 88, 434, 435, 436, 437, 438, 439, 440, 441, 85, 86, 442, 547, 548, 549, 550, 551, 552, 553, 554, 555, 56, 57, 556, 557, 558, 559, 560, 561, 562, 563, 564, 565, 566, 567, 568, 569, 570, 571, 572, 573, 574, 575, 576, 577, 503, 504, 505, 788, 789, 790, 791, 792, 793, 794, 795, 796, 797, 798, 799, 830, 831, 832, 833, 834, 835, 826, 827, 828, 829, 843, 844, 822, 823, 824, 825] (by decide +kernel) (by decide +kernel)) (goodIn_sub (fun _ h => List.mem_append_left _ (List.mem_append_left _ (List.mem_append_right _ h))) (by decide +kernel))
set_option maxRecDepth 20000 in
theorem gL_law_L_dimension : GoodIn wsL_law (va_wsS RL 109 yL_dimension wsL_dimension) := goodIn_app (goodIn_of _ (by decide +kernel)) ggL_law_L_dimension
set_option maxRecDepth 20000 in
theorem ggL_law_X7_dimension : GoodIn wsL_law wsX7_dimension := goodIn_r _ [581, 205, 206, 207, 5, 208, 209, 210, 211, 177, 178, 179, 180, 181, 582, 583, 584, 585, 586, 176, 344, 345, 346, 347, 140, 137, 348, 349, 350, 351, 146, 144, 324, 325, 326, 327, 212, 213, 214, 215, 328, 329, 330, 331, 587, 588, 589, 590, 145, 591, 592, 593, 594, 525, 526, 527, 528, 800, 801, 802, 803, 804, 805, 806, 807, 808, 809, 810, 811, 812, 813, 814, 815, 816, 817, 818, 819, 820, 821] (by decide +kernel) (by decide +kernel)
set_option maxRecDepth 20000 in
theorem gL_law_X7_dimension : GoodIn wsL_law (wsV RL 111 RX7 yX7_dimension wsX7_dimension) := goodIn_app (goodIn_of _ (by decide +kernel)) ggL_law_X7_dimension
set_option maxRecDepth 20000 in
theorem ggL_law_L_dimensionAnew : GoodIn wsL_law wsL_dimensionAnew := goodIn_ca (goodIn_r _ [597, 158, 598, 599, 600, 2, 601, 16, 28, 536, 537, 538, 163, 164, 196, 197, 198, 199, 111, 112, 15, 113, 45, 257, 258, 259, 27, 260, 72, 261, 262, 263, 264, 98, 99, 100, 101, 63, 265, 266, 267, 268, 269, 270, 271, 85, 86, 602, 603, 604, 605, 110, 788, 789, 790, 791, 792, 793, 794, 795, 796, 797, 798, 799, 822, 830, 831, 832, 833, 834, 835, 843, 844] (by decide +kernel) (by decide +kernel)) (goodIn_sub (fun _ h => List.mem_append_left _ (List.mem_append_left _ (List.mem_append_right _ h))) (by decide +kernel))
set_option maxRecDepth 20000 in
theorem gL_law_L_dimensionAnew : GoodIn wsL_law (va_wsS RL 112 yL_dimensionAnew wsL_dimensionAnew) := goodIn_app (goodIn_of _ (by decide +kernel)) ggL_law_L_dimensionAnew
set_option maxRecDepth 20000 in
theorem ggL_law_X7_dimensionAnew : GoodIn wsL_law wsX7_dimensionAnew := goodIn_r _ [609, 205, 206, 207, 5, 208, 209, 210, 211, 177, 178, 179, 180, 181, 582, 583, 584, 585, 586, 176, 344, 345, 346, 347, 140, 137, 348, 349, 350, 351, 146, 144, 324, 325, 326, 327, 212, 213, 214, 215, 328, 329, 330, 331, 587, 588, 589, 590, 145, 591, 592, 593, 594, 525, 526, 527, 528, 800, 801, 802, 803, 804, 805, 806, 807, 808, 809, 810, 811, 812, 813, 814, 815, 816, 817, 818, 819, 820, 821] (by decide +kernel) (by decide +kernel)
set_option maxRecDepth 20000 in
theorem gL_law_X7_dimensionAnew : GoodIn wsL_law (wsV RL 114 RX7 yX7_dimensionAnew wsX7_dimensionAnew) := goodIn_app (goodIn_of _ (by decide +kernel)) ggL_law_X7_dimensionAnew
set_option maxRecDepth 20000 in
theorem ggL_law_L_transvectant : GoodIn wsL_law wsL_transvectant := goodIn_ca (goodIn_ca (goodIn_r _ [612, 219, 158, 613, 614, 615, 2, 616, 163, 164, 34, 617, 301, 302, 303, 225, 226, 227, 228, 229, 230, 40, 231, 85, 86, 196, 197, 198, 618, 619, 620, 621, 38, 36, 37, 16, 170, 74, 75, 76, 622, 623, 624, 625, 35, 240, 241, 242, 15, 243, 45, 114, 115, 116, 117, 118, 119, 120, 121, 87, 88, 626, 627, 628, 252, 200, 629, 630, 631, 632, 633, 634, 635, 636, 637, 638, 639, 640, 788, 789, 790, 791, 792, 793, 794, 795, 796, 797, 798, 799, 822] (by decide +kernel) (by decide +kernel)) (goodIn_sub (fun _ h => List.mem_append_left _ (List.mem_append_left _ (List.mem_append_right _ h))) (by decide +kernel))) (goodIn_sub (fun _ h => List.mem_append_right _ h) (by decide +kernel))
set_option maxRecDepth 20000 in
theorem gL_law_L_transvectant : GoodIn wsL_law (va_wsS RL 115 yL_transvectant wsL_transvectant) := goodIn_app (goodIn_of _ (by decide +kernel)) ggL_law_L_transvectant
set_option maxRecDepth 20000 in
theorem ggL_law_X7_transvectant : GoodIn wsL_law wsX7_transvectant := goodIn_r _ [644, 138, 308, 309, 310, 5, 311, 175, 209, 210, 211, 205, 206, 207, 208, 177, 178, 179, 180, 181, 645, 646, 647, 648, 148, 146, 139, 147, 137, 324, 325, 326, 327, 212, 213, 214, 215, 649, 650, 651, 652, 328, 329, 330, 331, 653, 654, 655, 800, 801, 802, 803, 804, 805, 806, 807, 808, 809, 810, 811, 812, 813, 814, 815, 816, 817, 818, 819, 820, 821] (by decide +kernel) (by decide +kernel)
set_option maxRecDepth 20000 in
theorem gL_law_X7_transvectant : GoodIn wsL_law (wsV RL 117 RX7 yX7_transvectant wsX7_transvectant) := goodIn_app (goodIn_of _ (by decide +kernel)) ggL_law_X7_transvectant
set_option maxRecDepth 20000 in
theorem ggL_law_L_value : GoodIn wsL_law wsL_value := goodIn_ca (goodIn_ca (goodIn_r _ [658, 219, 158, 659, 660, 661, 2, 662, 163, 164, 34, 35, 225, 226, 227, 228, 229, 230, 40, 231, 85, 86, 663, 664, 665, 666, 667, 668, 669, 16, 36, 240, 241, 242, 15, 243, 45, 114, 115, 116, 117, 118, 119, 120, 121, 87, 88, 252, 788, 789, 790, 791, 792, 793, 794, 795, 796, 797, 798, 799, 822] (by decide +kernel) (by decide +kernel)) (goodIn_sub (fun _ h => List.mem_append_left _ (List.mem_append_left _ (List.mem_append_right _ h))) (by decide +kernel))) (goodIn_sub (fun _ h => List.mem_append_right _ h) (by decide +kernel))
set_option maxRecDepth 20000 in
theorem gL_law_L_value : GoodIn wsL_law (va_wsS RL 118 yL_value wsL_value) := goodIn_app (goodIn_of _ (by decide +kernel)) ggL_law_L_value
set_option maxRecDepth 20000 in
theorem ggL_law_X7_value : GoodIn wsL_law wsX7_value := goodIn_r _ [673, 138, 139, 308, 309, 310, 5, 311, 175, 209, 210, 211, 674, 675, 676, 177, 178, 179, 180, 181, 677, 678, 679, 680, 324, 325, 326, 327, 137, 212, 213, 214, 215, 328, 329, 330, 331, 800, 801, 802, 803, 804, 805, 806, 807, 808, 809, 810, 811, 812, 813, 814, 815, 816, 817, 818, 819, 820, 821] (by decide +kernel) (by decide +kernel)
set_option maxRecDepth 20000 in
theorem gL_law_X7_value : GoodIn wsL_law (wsV RL 120 RX7 yX7_value wsX7_value) := goodIn_app (goodIn_of _ (by decide +kernel)) ggL_law_X7_value
set_option maxRecDepth 20000 in
theorem ggL_law_X6_weighs : GoodIn wsL_law wsX6_weighs := goodIn_r _ [684, 40, 28, 414, 34, 35, 231, 85, 2, 86, 685, 686, 687, 688, 16, 545, 94, 95, 27, 96, 66, 97, 98, 99, 100, 101, 72, 63, 77, 78, 79, 15, 80, 45, 689, 690, 691, 692, 106, 107, 108, 109, 110, 111, 112, 113, 114, 115, 116, 117, 118, 119, 120, 121, 490, 262, 263, 264, 265, 266, 267, 268, 269, 270, 271, 663, 664, 665, 693, 694, 695, 380, 381, 382, 383, 666, 667, 668, 669, 36, 240, 241, 242, 243, 87, 88, 252, 788, 789, 790, 791, 792, 793, 794, 795, 796, 797, 798, 799, 830, 831, 832, 833, 834, 835, 843, 844, 822] (by decide +kernel) (by decide +kernel)
set_option maxRecDepth 20000 in
theorem gL_law_X6_weighs : GoodIn wsL_law (wsV RL 121 RX6 yX6_weighs wsX6_weighs) := goodIn_app (goodIn_of _ (by decide +kernel)) ggL_law_X6_weighs
set_option maxRecDepth 20000 in
theorem ggL_law_X7_weighs_ : GoodIn wsL_law wsX7_weighs_ := goodIn_r _ [699, 181, 700, 701, 702, 5, 703, 175, 138, 176, 674, 675, 676, 704, 705, 706, 707, 140, 139, 328, 329, 330, 331, 137, 677, 678, 679, 680, 324, 325, 326, 327, 212, 213, 214, 215, 708, 709, 710, 340, 341, 342, 343, 344, 345, 346, 347, 348, 349, 350, 351, 146, 144, 352, 353, 354, 355, 800, 801, 802, 803, 804, 805, 806, 807, 808, 809, 810, 811, 812, 813, 814, 815, 816, 817, 818, 819, 820, 821] (by decide +kernel) (by decide +kernel)
set_option maxRecDepth 20000 in
theorem gL_law_X7_weighs_ : GoodIn wsL_law (wsV RL 125 RX7 yX7_weighs_ wsX7_weighs_) := goodIn_app (goodIn_of _ (by decide +kernel)) ggL_law_X7_weighs_
set_option maxRecDepth 20000 in
theorem ggL_law_L_way : GoodIn wsL_law wsL_way := goodIn_ca (goodIn_ca (goodIn_r _ [713, 219, 158, 714, 715, 716, 2, 717, 32, 34, 35, 225, 226, 227, 228, 229, 230, 40, 718, 719, 720, 721, 163, 164, 231, 85, 86, 272, 273, 274, 31, 275, 276, 277, 278, 279, 127, 280, 74, 75, 76, 281, 282, 283, 284, 285, 128, 132, 286, 131, 287, 288, 289, 290, 129, 130, 291, 292, 293, 294, 87, 88, 295, 262, 263, 27, 264, 98, 99, 100, 101, 72, 63, 265, 266, 267, 268, 269, 270, 271, 722, 723, 724, 725, 788, 789, 790, 791, 792, 793, 794, 795, 796, 797, 798, 799, 836, 837, 838, 839, 840, 841, 842, 830, 831, 832, 833, 834, 835, 843, 844] (by decide +kernel) (by decide +kernel)) (goodIn_sub (fun _ h => List.mem_append_right _ h) (by decide +kernel))) (goodIn_sub (fun _ h => List.mem_append_left _ (List.mem_append_left _ (List.mem_append_right _ h))) (by decide +kernel))
set_option maxRecDepth 20000 in
theorem gL_law_L_way : GoodIn wsL_law (va_wsS RL 126 yL_way wsL_way) := goodIn_app (goodIn_of _ (by decide +kernel)) ggL_law_L_way
set_option maxRecDepth 20000 in
theorem ggL_law_X7_way : GoodIn wsL_law wsX7_way := goodIn_r _ [729, 138, 308, 309, 310, 5, 311, 175, 209, 210, 211, 177, 178, 179, 180, 181, 730, 731, 732, 733, 139, 152, 361, 362, 363, 364, 153, 360, 176, 150, 151, 212, 213, 214, 215, 137, 344, 345, 346, 347, 140, 348, 349, 350, 351, 146, 144, 324, 325, 326, 327, 328, 329, 330, 331, 352, 353, 354, 355, 800, 801, 802, 803, 804, 805, 806, 807, 808, 809, 810, 811, 812, 813, 814, 815, 816, 817, 818, 819, 820, 821] (by decide +kernel) (by decide +kernel)
set_option maxRecDepth 20000 in
theorem gL_law_X7_way : GoodIn wsL_law (wsV RL 128 RX7 yX7_way wsX7_way) := goodIn_app (goodIn_of _ (by decide +kernel)) ggL_law_X7_way
set_option maxRecDepth 20000 in
theorem ggL_law_L_step : GoodIn wsL_law wsL_step := goodIn_ca (goodIn_ca (goodIn_r _ [736, 219, 158, 737, 738, 739, 2, 740, 163, 164, 32, 34, 35, 225, 226, 227, 228, 229, 230, 40, 718, 719, 720, 721, 231, 85, 86, 272, 273, 274, 31, 275, 276, 277, 278, 279, 127, 280, 74, 75, 76, 281, 282, 283, 284, 285, 128, 132, 286, 131, 287, 288, 289, 290, 129, 130, 291, 292, 293, 294, 87, 88, 295, 262, 263, 27, 264, 98, 99, 100, 101, 72, 63, 265, 266, 267, 268, 269, 270, 271, 741, 742, 743, 744, 745, 723, 724, 725, 788, 789, 790, 791, 792, 793, 794, 795, 796, 797, 798, 799, 836, 837, 838, 839, 840, 841, 842, 830, 831, 832, 833, 834, 835, 843, 844] (by decide +kernel) (by decide +kernel)) (goodIn_sub (fun _ h => List.mem_append_left _ (List.mem_append_left _ (List.mem_append_right _ h))) (by decide +kernel))) (goodIn_sub (fun _ h => List.mem_append_right _ h) (by decide +kernel))
set_option maxRecDepth 20000 in
theorem gL_law_L_step : GoodIn wsL_law (va_wsS RL 129 yL_step wsL_step) := goodIn_app (goodIn_of _ (by decide +kernel)) ggL_law_L_step
set_option maxRecDepth 20000 in
theorem ggL_law_X7_step : GoodIn wsL_law wsX7_step := goodIn_r _ [749, 138, 308, 309, 310, 5, 311, 175, 209, 210, 211, 177, 178, 179, 180, 181, 750, 751, 752, 753, 139, 151, 150, 730, 731, 732, 733, 152, 361, 362, 363, 364, 153, 360, 176, 212, 213, 214, 215, 137, 344, 345, 346, 347, 140, 348, 349, 350, 351, 146, 144, 324, 325, 326, 327, 328, 329, 330, 331, 352, 353, 354, 355, 800, 801, 802, 803, 804, 805, 806, 807, 808, 809, 810, 811, 812, 813, 814, 815, 816, 817, 818, 819, 820, 821] (by decide +kernel) (by decide +kernel)
set_option maxRecDepth 20000 in
theorem gL_law_X7_step : GoodIn wsL_law (wsV RL 131 RX7 yX7_step wsX7_step) := goodIn_app (goodIn_of _ (by decide +kernel)) ggL_law_X7_step
set_option maxRecDepth 20000 in
theorem ggL_law_L_orbits : GoodIn wsL_law wsL_orbits := goodIn_ca (goodIn_r _ [756, 158, 757, 758, 759, 2, 760, 16, 32, 536, 537, 538, 163, 164, 196, 197, 198, 199, 111, 112, 15, 113, 45, 761, 277, 278, 31, 279, 127, 280, 74, 75, 76, 762, 292, 293, 294, 85, 86, 763, 282, 283, 284, 285, 128, 132, 286, 131, 287, 288, 289, 290, 129, 130, 291, 87, 88, 295, 262, 263, 27, 264, 98, 99, 100, 101, 72, 63, 265, 266, 267, 268, 269, 270, 271, 788, 789, 790, 791, 792, 793, 794, 795, 796, 797, 798, 799, 822, 836, 837, 838, 839, 840, 841, 842, 830, 831, 832, 833, 834, 835, 843, 844] (by decide +kernel) (by decide +kernel)) (goodIn_sub (fun _ h => List.mem_append_left _ (List.mem_append_left _ (List.mem_append_right _ h))) (by decide +kernel))
set_option maxRecDepth 20000 in
theorem gL_law_L_orbits : GoodIn wsL_law (va_wsS RL 132 yL_orbits wsL_orbits) := goodIn_app (goodIn_of _ (by decide +kernel)) ggL_law_L_orbits
set_option maxRecDepth 20000 in
theorem ggL_law_X7_orbits : GoodIn wsL_law wsX7_orbits := goodIn_r _ [767, 205, 206, 207, 5, 208, 209, 210, 211, 177, 178, 179, 180, 181, 768, 769, 770, 771, 470, 143, 586, 471, 472, 473, 474, 142, 137, 176, 475, 476, 477, 478, 479, 480, 481, 482, 140, 324, 325, 326, 327, 212, 213, 214, 215, 328, 329, 330, 331, 348, 349, 350, 351, 146, 144, 587, 588, 589, 590, 145, 591, 592, 593, 594, 525, 526, 527, 528, 800, 801, 802, 803, 804, 805, 806, 807, 808, 809, 810, 811, 812, 813, 814, 815, 816, 817, 818, 819, 820, 821] (by decide +kernel) (by decide +kernel)
set_option maxRecDepth 20000 in
theorem gL_law_X7_orbits : GoodIn wsL_law (wsV RL 134 RX7 yX7_orbits wsX7_orbits) := goodIn_app (goodIn_of _ (by decide +kernel)) ggL_law_X7_orbits
set_option maxRecDepth 20000 in
theorem ggL_law_L_orbitsAnew : GoodIn wsL_law wsL_orbitsAnew := goodIn_ca (goodIn_r _ [774, 158, 775, 776, 777, 2, 778, 39, 28, 465, 536, 537, 538, 163, 164, 196, 197, 198, 231, 85, 86, 779, 780, 781, 782, 20, 24, 16, 783, 90, 91, 27, 92, 64, 546, 429, 430, 19, 431, 51, 50, 432, 433, 107, 108, 15, 109, 110, 111, 112, 113, 45, 114, 115, 116, 117, 118, 119, 120, 121, 87, 88, 434, 435, 436, 437, 438, 439, 440, 441, 442, 539, 540, 541, 23, 542, 543, 544, 547, 548, 549, 550, 551, 552, 553, 554, 555, 56, 57, 556, 557, 558, 559, 560, 561, 562, 563, 564, 565, 566, 567, 568, 569, 570, 571, 572, 573, 574, 575, 576, 577, 503, 504, 505, 199, 200, 788, 789, 790, 791, 792, 793, 794, 795, 796, 797, 798, 799, 830, 831, 832, 833, 834, 835, 823, 824, 825, 822, 826, 827, 828, 829] (by decide +kernel) (by decide +kernel)) (goodIn_sub (fun _ h => List.mem_append_left _ (List.mem_append_left _ (List.mem_append_right _ h))) (by decide +kernel))
set_option maxRecDepth 20000 in
theorem gL_law_L_orbitsAnew : GoodIn wsL_law (va_wsS RL 135 yL_orbitsAnew wsL_orbitsAnew) := goodIn_app (goodIn_of _ (by decide +kernel)) ggL_law_L_orbitsAnew
set_option maxRecDepth 20000 in
theorem ggL_law_X7_orbitsAnew : GoodIn wsL_law wsX7_orbitsAnew := goodIn_r _ [787, 205, 206, 207, 5, 208, 209, 210, 211, 177, 178, 179, 180, 181, 768, 769, 770, 771, 470, 143, 586, 471, 472, 473, 474, 142, 137, 176, 475, 476, 477, 478, 479, 480, 481, 482, 140, 324, 325, 326, 327, 212, 213, 214, 215, 328, 329, 330, 331, 348, 349, 350, 351, 146, 144, 587, 588, 589, 590, 145, 591, 592, 593, 594, 525, 526, 527, 528, 800, 801, 802, 803, 804, 805, 806, 807, 808, 809, 810, 811, 812, 813, 814, 815, 816, 817, 818, 819, 820, 821] (by decide +kernel) (by decide +kernel)
set_option maxRecDepth 20000 in
theorem gL_law_X7_orbitsAnew : GoodIn wsL_law (wsV RL 137 RX7 yX7_orbitsAnew wsX7_orbitsAnew) := goodIn_app (goodIn_of _ (by decide +kernel)) ggL_law_X7_orbitsAnew
