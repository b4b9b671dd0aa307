set_option maxRecDepth 100000 in
theorem ggw_10 : GoodIn wsL_law wsL_isWay_r10 := goodIn_r _ [275, 276, 277, 278, 279, 280, 281, 282, 283, 284, 285, 286, 287, 288, 289, 290, 291, 292, 35, 34, 293, 294, 295, 296] (by decide +kernel) (by decide +kernel)
set_option maxRecDepth 100000 in
theorem ggw_11 : GoodIn wsL_law wsL_isWay_r11 := goodIn_r _ [297, 298, 299, 300, 301, 302, 303, 304, 305, 306, 307, 308, 309, 310, 311, 312, 313, 314, 315, 316, 317, 318, 319, 320] (by decide +kernel) (by decide +kernel)
set_option maxRecDepth 100000 in
theorem ggw_12 : GoodIn wsL_law wsL_isWay_r12 := goodIn_r _ [321, 322, 323, 324, 325, 326, 327, 328, 329, 330, 331, 332, 333, 334, 335, 336, 337, 338, 339, 340, 341, 342, 343, 344] (by decide +kernel) (by decide +kernel)
set_option maxRecDepth 100000 in
theorem ggw_13 : GoodIn wsL_law wsL_isWay_r13 := goodIn_r _ [345, 346, 347, 136, 137, 138] (by decide +kernel) (by decide +kernel)
set_option maxRecDepth 100000 in
theorem ggw_wsX60 : GoodIn wsL_law wsX60 := goodIn_sub inlX6 (by decide +kernel)
set_option maxRecDepth 100000 in
theorem ggw_wsX50 : GoodIn wsL_law wsX50 := goodIn_sub inlX5 (by decide +kernel)
set_option maxRecDepth 100000 in
theorem ggw_wsX20 : GoodIn wsL_law wsX20 := goodIn_sub inlX2 (by decide +kernel)
set_option maxRecDepth 100000 in
theorem ggw_wsX40 : GoodIn wsL_law wsX40 := goodIn_sub inlX4 (by decide +kernel)
set_option maxRecDepth 100000 in
theorem ggw_wsX30 : GoodIn wsL_law wsX30 := goodIn_sub inlX3 (by decide +kernel)
theorem goodIn_1 {big a : List Cond} {c : Cond} (hc : GoodIn big [c]) (ha : GoodIn big a) : GoodIn big (c :: a) := fun w h => (List.mem_cons.mp h).elim (fun e => hc w (List.mem_singleton.mpr e)) (ha w)
set_option maxRecDepth 100000 in
theorem ggL_law_L_isWay : GoodIn wsL_law wsL_isWay := goodIn_ca (goodIn_ca (goodIn_ca (goodIn_1 ggw_0 (goodIn_app (goodIn_app (goodIn_app (goodIn_app (goodIn_app (goodIn_app ggw_1 (goodIn_app ggw_2 (goodIn_app ggw_3 (goodIn_app ggw_4 (goodIn_app ggw_5 (goodIn_app ggw_6 (goodIn_app ggw_7 (goodIn_app ggw_8 (goodIn_app ggw_9 (goodIn_app ggw_10 (goodIn_app ggw_11 (goodIn_app ggw_12 (ggw_13))))))))))))) ggw_wsX60) ggw_wsX50) ggw_wsX20) ggw_wsX40) ggw_wsX30)) (goodIn_sub (fun _ h => List.mem_append_left _ (List.mem_append_left _ (List.mem_append_right _ h))) (by decide +kernel))) (goodIn_sub (fun _ h => List.mem_append_right _ h) (by decide +kernel))) (goodIn_sub (fun _ h => List.mem_append_left _ (List.mem_append_right _ h)) (by decide +kernel))
