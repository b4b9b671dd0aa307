set_option maxRecDepth 20000 in
theorem ggL_call_X6_prime : GoodIn wsL_call wsX6_prime := goodIn_ca (goodIn_r _ [5, 6, 7, 8, 9, 10, 11, 12, 13, 14, 15, 16, 17, 18, 19, 20, 21, 22, 23, 24, 25, 26, 27, 28, 29, 30, 31, 32, 33, 34, 35, 36, 37, 38, 39, 40, 41, 4, 42, 43, 44, 45, 46, 47, 48, 49, 50, 51, 52, 53, 54, 55, 56, 57, 58, 59, 60, 61, 62, 63, 64, 65, 66, 67, 68, 69, 70, 71, 72, 73, 74, 75, 76, 77, 78, 79, 80, 282, 283, 284, 285, 286, 287, 288, 289, 290, 291, 292, 293, 294, 295, 296, 297, 298, 299, 300, 301, 302] (by decide +kernel) (by decide +kernel)) (goodIn_sub (fun _ h => List.mem_cons_of_mem _ (List.mem_append_left _ (List.mem_append_left _ (List.mem_append_right _ h)))) (by decide +kernel))
set_option maxRecDepth 20000 in
theorem gL_call_X6_prime : GoodIn wsL_call (wsV RL 7 RX6 yX6_prime wsX6_prime) := goodIn_app (goodIn_of _ (by decide +kernel)) ggL_call_X6_prime
set_option maxRecDepth 20000 in
theorem ggL_call_X6_form : GoodIn wsL_call wsX6_form := goodIn_ca (goodIn_ca (goodIn_r _ [84, 6, 7, 85, 86, 8, 10, 87, 88, 89, 90, 4, 91, 92, 68, 69, 33, 70, 35, 93, 43, 44, 282, 283, 284, 285, 286, 287, 288, 289, 290, 291, 292, 293, 294] (by decide +kernel) (by decide +kernel)) (goodIn_sub (fun _ h => List.mem_cons_of_mem _ (List.mem_append_left _ (List.mem_append_left _ (List.mem_append_right _ h)))) (by decide +kernel))) (goodIn_sub (fun _ h => List.mem_cons_of_mem _ (List.mem_append_left _ (List.mem_append_right _ h))) (by decide +kernel))
set_option maxRecDepth 20000 in
theorem gL_call_X6_form : GoodIn wsL_call (wsV RL 13 RX6 yX6_form wsX6_form) := goodIn_app (goodIn_of _ (by decide +kernel)) ggL_call_X6_form
set_option maxRecDepth 20000 in
theorem ggL_call_X6_formIs : GoodIn wsL_call wsX6_formIs := goodIn_ca (goodIn_ca (goodIn_r _ [97, 6, 7, 87, 88, 11, 98, 99, 100, 101, 102, 4, 103, 104, 105, 10, 106, 41, 42, 107, 108, 109, 110, 8, 9, 111, 112, 113, 114, 115, 116, 117, 118, 33, 119, 35, 71, 72, 73, 74, 75, 76, 77, 78, 43, 44, 120, 121, 122, 123, 93, 124, 125, 126, 127, 128, 129, 130, 131, 132, 133, 134, 135, 16, 136, 18, 137, 138, 139, 140, 54, 55, 56, 57, 58, 141, 142, 143, 144, 145, 146, 147, 148, 149, 150, 151, 152, 153, 154, 155, 156, 157, 158, 27, 28, 29, 159, 160, 161, 162, 163, 164, 165, 166, 167, 168, 169, 170, 171, 172, 173, 174, 175, 176, 177, 178, 179, 180, 181, 182, 183, 184, 185, 186, 282, 283, 284, 285, 286, 287, 288, 289, 290, 291, 292, 293, 303, 304, 305, 306, 307, 308, 309, 294, 295, 296, 297, 298, 299, 300, 301, 302] (by decide +kernel) (by decide +kernel)) (goodIn_sub (fun _ h => List.mem_cons_of_mem _ (List.mem_append_left _ (List.mem_append_left _ (List.mem_append_right _ h)))) (by decide +kernel))) (goodIn_sub (fun _ h => List.mem_cons_of_mem _ (List.mem_append_right _ h)) (by decide +kernel))
set_option maxRecDepth 20000 in
theorem gL_call_X6_formIs : GoodIn wsL_call (wsV RL 17 RX6 yX6_formIs wsX6_formIs) := goodIn_app (goodIn_of _ (by decide +kernel)) ggL_call_X6_formIs
set_option maxRecDepth 20000 in
theorem ggL_call_X6_changed : GoodIn wsL_call wsX6_changed := goodIn_ca (goodIn_r _ [190, 104, 105, 11, 191, 87, 88, 100, 101, 102, 4, 103, 10, 106, 41, 42, 192, 138, 139, 16, 140, 54, 55, 56, 57, 18, 58, 141, 142, 143, 144, 145, 146, 147, 282, 283, 284, 285, 286, 287, 288, 289, 290, 291, 292, 293, 295, 296, 297, 298, 299, 300, 301, 302] (by decide +kernel) (by decide +kernel)) (goodIn_sub (fun _ h => List.mem_cons_of_mem _ (List.mem_append_right _ h)) (by decide +kernel))
set_option maxRecDepth 20000 in
theorem gL_call_X6_changed : GoodIn wsL_call (wsV RL 20 RX6 yX6_changed wsX6_changed) := goodIn_app (goodIn_of _ (by decide +kernel)) ggL_call_X6_changed
set_option maxRecDepth 20000 in
theorem ggL_call_X6_average : GoodIn wsL_call wsX6_average := goodIn_ca (goodIn_r _ [196, 8, 11, 197, 98, 87, 88, 99, 100, 101, 102, 4, 103, 104, 105, 10, 198, 199, 200, 33, 201, 35, 71, 72, 73, 74, 75, 76, 77, 78, 106, 41, 42, 148, 149, 150, 151, 152, 153, 154, 155, 156, 157, 158, 27, 28, 29, 159, 160, 161, 162, 163, 164, 165, 166, 167, 168, 169, 170, 171, 172, 173, 174, 175, 176, 177, 43, 44, 178, 138, 139, 16, 140, 54, 55, 56, 57, 18, 58, 141, 142, 143, 144, 145, 146, 147, 202, 203, 204, 205, 206, 207, 208, 209, 210, 128, 211, 212, 213, 214, 215, 282, 283, 284, 285, 286, 287, 288, 289, 290, 291, 292, 293, 295, 296, 297, 298, 299, 300, 303, 304, 305, 306, 307, 308, 309, 294, 301, 302] (by decide +kernel) (by decide +kernel)) (goodIn_sub (fun _ h => List.mem_cons_of_mem _ (List.mem_append_right _ h)) (by decide +kernel))
set_option maxRecDepth 20000 in
theorem gL_call_X6_average : GoodIn wsL_call (wsV RL 23 RX6 yX6_average wsX6_average) := goodIn_app (goodIn_of _ (by decide +kernel)) ggL_call_X6_average
set_option maxRecDepth 20000 in
theorem ggL_call_X6_transvectant : GoodIn wsL_call wsX6_transvectant := goodIn_ca (goodIn_ca (goodIn_r _ [219, 6, 7, 87, 220, 184, 185, 186, 100, 101, 102, 4, 103, 104, 105, 10, 106, 41, 42, 89, 90, 91, 221, 222, 223, 224, 225, 115, 226, 8, 80, 27, 28, 29, 227, 228, 229, 230, 88, 116, 117, 118, 33, 119, 35, 71, 72, 73, 74, 75, 76, 77, 78, 43, 44, 231, 232, 233, 128, 93, 234, 235, 236, 237, 238, 239, 240, 241, 242, 243, 244, 245, 282, 283, 284, 285, 286, 287, 288, 289, 290, 291, 292, 293, 294] (by decide +kernel) (by decide +kernel)) (goodIn_sub (fun _ h => List.mem_cons_of_mem _ (List.mem_append_left _ (List.mem_append_left _ (List.mem_append_right _ h)))) (by decide +kernel))) (goodIn_sub (fun _ h => List.mem_cons_of_mem _ (List.mem_append_right _ h)) (by decide +kernel))
set_option maxRecDepth 20000 in
theorem gL_call_X6_transvectant : GoodIn wsL_call (wsV RL 26 RX6 yX6_transvectant wsX6_transvectant) := goodIn_app (goodIn_of _ (by decide +kernel)) ggL_call_X6_transvectant
set_option maxRecDepth 20000 in
theorem ggL_call_X6_value : GoodIn wsL_call wsX6_value := goodIn_ca (goodIn_ca (goodIn_r _ [249, 6, 7, 87, 88, 100, 101, 102, 4, 103, 104, 105, 10, 106, 41, 42, 250, 251, 252, 253, 254, 255, 256, 8, 115, 116, 117, 118, 33, 119, 35, 71, 72, 73, 74, 75, 76, 77, 78, 43, 44, 128, 282, 283, 284, 285, 286, 287, 288, 289, 290, 291, 292, 293, 294] (by decide +kernel) (by decide +kernel)) (goodIn_sub (fun _ h => List.mem_cons_of_mem _ (List.mem_append_left _ (List.mem_append_left _ (List.mem_append_right _ h)))) (by decide +kernel))) (goodIn_sub (fun _ h => List.mem_cons_of_mem _ (List.mem_append_right _ h)) (by decide +kernel))
set_option maxRecDepth 20000 in
theorem gL_call_X6_value : GoodIn wsL_call (wsV RL 30 RX6 yX6_value wsX6_value) := goodIn_app (goodIn_of _ (by decide +kernel)) ggL_call_X6_value
set_option maxRecDepth 20000 in
theorem ggL_call_X6_way : GoodIn wsL_call wsX6_way := goodIn_ca (goodIn_ca (goodIn_r _ [260, 98, 87, 88, 100, 101, 102, 4, 103, 104, 105, 10, 261, 262, 263, 264, 6, 7, 106, 41, 42, 148, 149, 150, 151, 152, 153, 154, 155, 156, 157, 158, 27, 28, 29, 159, 160, 161, 162, 163, 164, 165, 166, 167, 168, 169, 170, 171, 172, 173, 174, 175, 176, 177, 43, 44, 178, 138, 139, 16, 140, 54, 55, 56, 57, 18, 58, 141, 142, 143, 144, 145, 146, 147, 265, 266, 267, 268, 282, 283, 284, 285, 286, 287, 288, 289, 290, 291, 292, 293, 303, 304, 305, 306, 307, 308, 309, 295, 296, 297, 298, 299, 300, 301, 302] (by decide +kernel) (by decide +kernel)) (goodIn_sub (fun _ h => List.mem_cons_of_mem _ (List.mem_append_right _ h)) (by decide +kernel))) (goodIn_sub (fun _ h => List.mem_cons_of_mem _ (List.mem_append_left _ (List.mem_append_left _ (List.mem_append_right _ h)))) (by decide +kernel))
set_option maxRecDepth 20000 in
theorem gL_call_X6_way : GoodIn wsL_call (wsV RL 33 RX6 yX6_way wsX6_way) := goodIn_app (goodIn_of _ (by decide +kernel)) ggL_call_X6_way
set_option maxRecDepth 20000 in
theorem ggL_call_X6_step : GoodIn wsL_call wsX6_step := goodIn_ca (goodIn_ca (goodIn_r _ [272, 6, 7, 98, 87, 88, 100, 101, 102, 4, 103, 104, 105, 10, 261, 262, 263, 264, 106, 41, 42, 148, 149, 150, 151, 152, 153, 154, 155, 156, 157, 158, 27, 28, 29, 159, 160, 161, 162, 163, 164, 165, 166, 167, 168, 169, 170, 171, 172, 173, 174, 175, 176, 177, 43, 44, 178, 138, 139, 16, 140, 54, 55, 56, 57, 18, 58, 141, 142, 143, 144, 145, 146, 147, 273, 274, 275, 276, 277, 266, 267, 268, 282, 283, 284, 285, 286, 287, 288, 289, 290, 291, 292, 293, 303, 304, 305, 306, 307, 308, 309, 295, 296, 297, 298, 299, 300, 301, 302] (by decide +kernel) (by decide +kernel)) (goodIn_sub (fun _ h => List.mem_cons_of_mem _ (List.mem_append_left _ (List.mem_append_left _ (List.mem_append_right _ h)))) (by decide +kernel))) (goodIn_sub (fun _ h => List.mem_cons_of_mem _ (List.mem_append_right _ h)) (by decide +kernel))
set_option maxRecDepth 20000 in
theorem gL_call_X6_step : GoodIn wsL_call (wsV RL 36 RX6 yX6_step wsX6_step) := goodIn_app (goodIn_of _ (by decide +kernel)) ggL_call_X6_step
set_option maxRecDepth 20000 in
theorem ggL_call_X6_multiplicity : GoodIn wsL_call wsX6_multiplicity := goodIn_ca (goodIn_r _ [281, 104, 105, 8, 9, 87, 88, 100, 101, 102, 4, 103, 10, 106, 41, 42, 111, 112, 113, 114, 115, 116, 117, 118, 33, 119, 35, 71, 72, 73, 74, 75, 76, 77, 78, 43, 44, 120, 121, 122, 123, 93, 124, 125, 126, 127, 128, 282, 283, 284, 285, 286, 287, 288, 289, 290, 291, 292, 293, 294] (by decide +kernel) (by decide +kernel)) (goodIn_sub (fun _ h => List.mem_cons_of_mem _ (List.mem_append_right _ h)) (by decide +kernel))
set_option maxRecDepth 20000 in
theorem gL_call_X6_multiplicity : GoodIn wsL_call (wsV RL 39 RX6 yX6_multiplicity wsX6_multiplicity) := goodIn_app (goodIn_of _ (by decide +kernel)) ggL_call_X6_multiplicity
theorem dL_call_0 : decode cL_call 0 = .ok (.iload_n 1, 1) := by decide +kernel
theorem dL_call_1 : decode cL_call 1 = .ok (.tableswitch 116 0 8 #[51, 57, 64, 71, 78, 84, 93, 100, 107], 51) := by decide +kernel
theorem dL_call_52 : decode cL_call 52 = .ok (.aload_n 0, 1) := by decide +kernel
theorem dL_call_53 : decode cL_call 53 = .ok (.iload_n 2, 1) := by decide +kernel
theorem dL_call_54 : decode cL_call 54 = .ok (.invokevirtual 7, 3) := by decide +kernel
theorem dL_call_57 : decode cL_call 57 = .ok (.ireturn, 1) := by decide +kernel
theorem dL_call_58 : decode cL_call 58 = .ok (.aload_n 0, 1) := by decide +kernel
theorem dL_call_59 : decode cL_call 59 = .ok (.iload_n 2, 1) := by decide +kernel
theorem dL_call_60 : decode cL_call 60 = .ok (.iload_n 3, 1) := by decide +kernel
theorem dL_call_61 : decode cL_call 61 = .ok (.invokevirtual 13, 3) := by decide +kernel
theorem dL_call_64 : decode cL_call 64 = .ok (.ireturn, 1) := by decide +kernel
theorem dL_call_65 : decode cL_call 65 = .ok (.aload_n 0, 1) := by decide +kernel
theorem dL_call_66 : decode cL_call 66 = .ok (.iload_n 2, 1) := by decide +kernel
theorem dL_call_67 : decode cL_call 67 = .ok (.iload_n 3, 1) := by decide +kernel
theorem dL_call_68 : decode cL_call 68 = .ok (.invokevirtual 17, 3) := by decide +kernel
theorem dL_call_71 : decode cL_call 71 = .ok (.ireturn, 1) := by decide +kernel
theorem dL_call_72 : decode cL_call 72 = .ok (.aload_n 0, 1) := by decide +kernel
theorem dL_call_73 : decode cL_call 73 = .ok (.iload_n 2, 1) := by decide +kernel
theorem dL_call_74 : decode cL_call 74 = .ok (.iload_n 3, 1) := by decide +kernel
theorem dL_call_75 : decode cL_call 75 = .ok (.invokevirtual 20, 3) := by decide +kernel
theorem dL_call_78 : decode cL_call 78 = .ok (.ireturn, 1) := by decide +kernel
theorem dL_call_79 : decode cL_call 79 = .ok (.aload_n 0, 1) := by decide +kernel
theorem dL_call_80 : decode cL_call 80 = .ok (.iload_n 2, 1) := by decide +kernel
theorem dL_call_81 : decode cL_call 81 = .ok (.invokevirtual 23, 3) := by decide +kernel
theorem dL_call_84 : decode cL_call 84 = .ok (.ireturn, 1) := by decide +kernel
theorem dL_call_85 : decode cL_call 85 = .ok (.aload_n 0, 1) := by decide +kernel
theorem dL_call_86 : decode cL_call 86 = .ok (.iload_n 2, 1) := by decide +kernel
theorem dL_call_87 : decode cL_call 87 = .ok (.iload_n 3, 1) := by decide +kernel
theorem dL_call_88 : decode cL_call 88 = .ok (.iload 4, 2) := by decide +kernel
theorem dL_call_90 : decode cL_call 90 = .ok (.invokevirtual 26, 3) := by decide +kernel
theorem dL_call_93 : decode cL_call 93 = .ok (.ireturn, 1) := by decide +kernel
theorem dL_call_94 : decode cL_call 94 = .ok (.aload_n 0, 1) := by decide +kernel
theorem dL_call_95 : decode cL_call 95 = .ok (.iload_n 2, 1) := by decide +kernel
theorem dL_call_96 : decode cL_call 96 = .ok (.iload_n 3, 1) := by decide +kernel
theorem dL_call_97 : decode cL_call 97 = .ok (.invokevirtual 30, 3) := by decide +kernel
theorem dL_call_100 : decode cL_call 100 = .ok (.ireturn, 1) := by decide +kernel
theorem dL_call_101 : decode cL_call 101 = .ok (.aload_n 0, 1) := by decide +kernel
theorem dL_call_102 : decode cL_call 102 = .ok (.iload_n 2, 1) := by decide +kernel
theorem dL_call_103 : decode cL_call 103 = .ok (.iload_n 3, 1) := by decide +kernel
theorem dL_call_104 : decode cL_call 104 = .ok (.invokevirtual 33, 3) := by decide +kernel
theorem dL_call_107 : decode cL_call 107 = .ok (.ireturn, 1) := by decide +kernel
theorem dL_call_108 : decode cL_call 108 = .ok (.aload_n 0, 1) := by decide +kernel
theorem dL_call_109 : decode cL_call 109 = .ok (.iload_n 2, 1) := by decide +kernel
theorem dL_call_110 : decode cL_call 110 = .ok (.iload_n 3, 1) := by decide +kernel
theorem dL_call_111 : decode cL_call 111 = .ok (.iload 4, 2) := by decide +kernel
theorem dL_call_113 : decode cL_call 113 = .ok (.invokevirtual 36, 3) := by decide +kernel
theorem dL_call_116 : decode cL_call 116 = .ok (.ireturn, 1) := by decide +kernel
theorem dL_call_117 : decode cL_call 117 = .ok (.aload_n 0, 1) := by decide +kernel
theorem dL_call_118 : decode cL_call 118 = .ok (.iload_n 2, 1) := by decide +kernel
theorem dL_call_119 : decode cL_call 119 = .ok (.iload_n 3, 1) := by decide +kernel
theorem dL_call_120 : decode cL_call 120 = .ok (.invokevirtual 39, 3) := by decide +kernel
theorem dL_call_123 : decode cL_call 123 = .ok (.ireturn, 1) := by decide +kernel
set_option maxRecDepth 20000 in
theorem ggL_ask_L_call : GoodIn wsL_ask wsL_call := goodIn_ca (goodIn_ca (goodIn_ca (goodIn_r _ [7, 8, 9, 10, 11, 12, 13, 14, 15, 16, 17, 18, 19, 20, 21, 22, 23, 24, 25, 26, 27, 28, 29, 30, 31, 32, 33, 34, 35, 36, 37, 38, 39, 40, 41, 42, 43, 44, 45, 46, 47, 48, 49, 50, 51, 52, 53, 54, 55, 56, 57, 58, 59, 60, 61, 62, 63, 64, 65, 66, 67, 68, 69, 70, 71, 72, 73, 74, 75, 76, 77, 78, 79, 80, 81, 82, 83, 84, 85, 86, 87, 88, 89, 90, 91, 92, 93, 94, 95, 96, 97, 98, 99, 100, 101, 102, 103, 104, 105, 106, 107, 108, 109, 110, 111, 112, 113, 114, 115, 116, 117, 118, 119, 120, 121, 122, 123, 124, 125, 126, 127, 128, 129, 130, 131, 132, 133, 134, 135, 136, 137, 138, 139, 140, 141, 142, 143, 144, 145, 146, 147, 148, 149, 150, 151, 152, 153, 154, 155, 156, 157, 158, 159, 160, 161, 162, 163, 164, 165, 166, 167, 168, 169, 170, 171, 172, 173, 174, 175, 176, 177, 178, 179, 180, 181, 182, 183, 184, 185, 186, 187, 188, 189, 190, 191, 192, 193, 194, 195, 196, 197, 198, 199, 200, 201, 202, 203, 204, 205, 206, 207, 208, 209, 210, 211, 212, 213, 214, 215, 216, 217, 218, 219, 220, 221, 222, 223, 224, 225, 226, 227, 228, 229, 230, 231, 232, 233, 234, 235, 236, 237, 238, 239, 240, 241, 242, 243, 244, 245, 246, 247, 248, 249, 250, 251, 252, 253, 254, 255, 256, 257, 258, 259, 260, 261, 262, 263, 264, 265, 266, 267, 268, 269, 270, 271, 272, 273, 274, 275, 276, 277, 278, 279, 280, 281, 282, 283, 284, 285, 286, 287, 288, 289, 290, 291, 292, 293, 294, 295, 296, 297, 298, 299, 300, 301, 302, 303, 304, 305, 306, 307, 308, 309, 310, 311, 312, 313, 314, 315, 316] (by decide +kernel) (by decide +kernel)) (goodIn_sub (fun _ h => List.mem_cons_of_mem _ (List.mem_append_left _ (List.mem_append_left _ (List.mem_append_right _ h)))) (by decide +kernel))) (goodIn_sub (fun _ h => List.mem_cons_of_mem _ (List.mem_append_left _ (List.mem_append_right _ h))) (by decide +kernel))) (goodIn_sub (fun _ h => List.mem_cons_of_mem _ (List.mem_append_right _ h)) (by decide +kernel))
set_option maxRecDepth 20000 in
theorem gL_ask_L_call : GoodIn wsL_ask (va_wsS RL 42 yL_call wsL_call) := goodIn_app (goodIn_of _ (by decide +kernel)) ggL_ask_L_call
theorem dL_ask_0 : decode cL_ask 0 = .ok (.aload_n 0, 1) := by decide +kernel
theorem dL_ask_1 : decode cL_ask 1 = .ok (.iload_n 1, 1) := by decide +kernel
theorem dL_ask_2 : decode cL_ask 2 = .ok (.iload_n 2, 1) := by decide +kernel
theorem dL_ask_3 : decode cL_ask 3 = .ok (.iload_n 3, 1) := by decide +kernel
theorem dL_ask_4 : decode cL_ask 4 = .ok (.iload 4, 2) := by decide +kernel
theorem dL_ask_6 : decode cL_ask 6 = .ok (.invokestatic 42, 3) := by decide +kernel
theorem dL_ask_9 : decode cL_ask 9 = .ok (.ireturn, 1) := by decide +kernel
theorem dL_ask_10 : decode cL_ask 10 = .ok (.astore 5, 2) := by decide +kernel
theorem dL_ask_12 : decode cL_ask 12 = .ok (.bipush (-11), 2) := by decide +kernel
theorem dL_ask_14 : decode cL_ask 14 = .ok (.ireturn, 1) := by decide +kernel
theorem dL_ask_15 : decode cL_ask 15 = .ok (.astore 5, 2) := by decide +kernel
theorem dL_ask_17 : decode cL_ask 17 = .ok (.bipush (-12), 2) := by decide +kernel
theorem dL_ask_19 : decode cL_ask 19 = .ok (.ireturn, 1) := by decide +kernel
theorem dL_ask_20 : decode cL_ask 20 = .ok (.astore 5, 2) := by decide +kernel
theorem dL_ask_22 : decode cL_ask 22 = .ok (.bipush (-13), 2) := by decide +kernel
theorem dL_ask_24 : decode cL_ask 24 = .ok (.ireturn, 1) := by decide +kernel
set_option maxRecDepth 20000 in
theorem ggL_generator_X6_generator : GoodIn wsL_generator wsX6_generator := goodIn_ca (goodIn_ca (goodIn_r _ [7, 8, 9, 10, 11, 12, 13, 14, 15, 16, 17, 18, 19, 20, 21, 22, 23, 24, 25, 26, 27, 28, 29, 30, 31, 32, 33, 34, 35, 36, 37, 38, 39, 40, 41, 42, 43, 44, 45, 46, 47, 48, 49, 50, 51, 52, 53, 54, 55, 56, 57, 58, 59, 60, 61, 62, 63, 64, 65, 66, 67, 68, 69, 70, 71, 72, 73, 74, 75, 6, 76, 77, 78, 79, 80, 81, 82, 83, 84, 85, 86, 87, 88, 89, 90, 91, 92, 93, 94, 95, 96, 97, 98, 99, 100, 101, 102, 103, 104, 105, 106, 107, 108, 109, 110, 111, 112, 113, 114, 115, 116, 117, 118, 119, 120, 121, 122, 123, 124, 125, 126, 127, 128, 129, 130, 131, 132, 133, 134, 135, 136, 137, 138, 139, 140, 141, 142, 143, 144, 145, 146, 147, 148, 149, 150, 151, 152, 153, 154, 155, 156, 157, 158, 159, 160, 161] (by decide +kernel) (by decide +kernel)) (goodIn_sub (fun _ h => List.mem_cons_of_mem _ (List.mem_append_left _ (List.mem_append_right _ h))) (by decide +kernel))) (goodIn_sub (fun _ h => List.mem_cons_of_mem _ (List.mem_append_right _ h)) (by decide +kernel))
set_option maxRecDepth 20000 in
theorem gL_generator_X6_generator : GoodIn wsL_generator (wsV RL 54 RX6 yX6_generator wsX6_generator) := goodIn_app (goodIn_of _ (by decide +kernel)) ggL_generator_X6_generator
theorem dL_generator_0 : decode cL_generator 0 = .ok (.aload_n 0, 1) := by decide +kernel
theorem dL_generator_1 : decode cL_generator 1 = .ok (.iload_n 1, 1) := by decide +kernel
theorem dL_generator_2 : decode cL_generator 2 = .ok (.iload_n 2, 1) := by decide +kernel
theorem dL_generator_3 : decode cL_generator 3 = .ok (.iload_n 3, 1) := by decide +kernel
theorem dL_generator_4 : decode cL_generator 4 = .ok (.iload 4, 2) := by decide +kernel
theorem dL_generator_6 : decode cL_generator 6 = .ok (.invokevirtual 54, 3) := by decide +kernel
theorem dL_generator_9 : decode cL_generator 9 = .ok (.ireturn, 1) := by decide +kernel
theorem dL_generator_10 : decode cL_generator 10 = .ok (.astore 5, 2) := by decide +kernel
theorem dL_generator_12 : decode cL_generator 12 = .ok (.bipush (-12), 2) := by decide +kernel
theorem dL_generator_14 : decode cL_generator 14 = .ok (.ireturn, 1) := by decide +kernel
theorem dL_generator_15 : decode cL_generator 15 = .ok (.astore 5, 2) := by decide +kernel
theorem dL_generator_17 : decode cL_generator 17 = .ok (.bipush (-13), 2) := by decide +kernel
theorem dL_generator_19 : decode cL_generator 19 = .ok (.ireturn, 1) := by decide +kernel
theorem dL_draw_0 : decode cL_draw 0 = .ok (.iload_n 1, 1) := by decide +kernel
theorem dL_draw_1 : decode cL_draw 1 = .ok (.aload_n 0, 1) := by decide +kernel
theorem dL_draw_2 : decode cL_draw 2 = .ok (.arraylength, 1) := by decide +kernel
theorem dL_draw_3 : decode cL_draw 3 = .ok (.if_icmp .ge 9, 3) := by decide +kernel
theorem dL_draw_6 : decode cL_draw 6 = .ok (.aload_n 0, 1) := by decide +kernel
theorem dL_draw_7 : decode cL_draw 7 = .ok (.iload_n 1, 1) := by decide +kernel
theorem dL_draw_8 : decode cL_draw 8 = .ok (.iaload, 1) := by decide +kernel
theorem dL_draw_9 : decode cL_draw 9 = .ok (.goto 18, 3) := by decide +kernel
theorem dL_draw_12 : decode cL_draw 12 = .ok (.ldc 58, 2) := by decide +kernel
theorem dL_draw_14 : decode cL_draw 14 = .ok (.iload_n 1, 1) := by decide +kernel
theorem dL_draw_15 : decode cL_draw 15 = .ok (.imul, 1) := by decide +kernel
theorem dL_draw_16 : decode cL_draw 16 = .ok (.iload_n 1, 1) := by decide +kernel
theorem dL_draw_17 : decode cL_draw 17 = .ok (.imul, 1) := by decide +kernel
theorem dL_draw_18 : decode cL_draw 18 = .ok (.ldc 59, 2) := by decide +kernel
theorem dL_draw_20 : decode cL_draw 20 = .ok (.iload_n 1, 1) := by decide +kernel
theorem dL_draw_21 : decode cL_draw 21 = .ok (.imul, 1) := by decide +kernel
theorem dL_draw_22 : decode cL_draw 22 = .ok (.iadd, 1) := by decide +kernel
theorem dL_draw_23 : decode cL_draw 23 = .ok (.sipush 361, 3) := by decide +kernel
theorem dL_draw_26 : decode cL_draw 26 = .ok (.iadd, 1) := by decide +kernel
theorem dL_draw_27 : decode cL_draw 27 = .ok (.ireturn, 1) := by decide +kernel
theorem dL_power_0 : decode cL_power 0 = .ok (.iconst 1, 1) := by decide +kernel
theorem dL_power_1 : decode cL_power 1 = .ok (.istore_n 2, 1) := by decide +kernel
theorem dL_power_2 : decode cL_power 2 = .ok (.iconst 0, 1) := by decide +kernel
theorem dL_power_3 : decode cL_power 3 = .ok (.istore_n 3, 1) := by decide +kernel
theorem dL_power_4 : decode cL_power 4 = .ok (.iload_n 3, 1) := by decide +kernel
theorem dL_power_5 : decode cL_power 5 = .ok (.iload_n 1, 1) := by decide +kernel
theorem dL_power_6 : decode cL_power 6 = .ok (.if_icmp .ge 13, 3) := by decide +kernel
theorem dL_power_9 : decode cL_power 9 = .ok (.iload_n 2, 1) := by decide +kernel
theorem dL_power_10 : decode cL_power 10 = .ok (.iload_n 0, 1) := by decide +kernel
theorem dL_power_11 : decode cL_power 11 = .ok (.imul, 1) := by decide +kernel
theorem dL_power_12 : decode cL_power 12 = .ok (.istore_n 2, 1) := by decide +kernel
theorem dL_power_13 : decode cL_power 13 = .ok (.iinc 3 1, 3) := by decide +kernel
theorem dL_power_16 : decode cL_power 16 = .ok (.goto (-12), 3) := by decide +kernel
theorem dL_power_19 : decode cL_power 19 = .ok (.iload_n 2, 1) := by decide +kernel
theorem dL_power_20 : decode cL_power 20 = .ok (.ireturn, 1) := by decide +kernel
set_option maxRecDepth 20000 in
theorem ggL_plus_L_power : GoodIn wsL_plus wsL_power := goodIn_r _ [4] (by decide +kernel) (by decide +kernel)
set_option maxRecDepth 20000 in
theorem gL_plus_L_power : GoodIn wsL_plus (va_wsS RL 60 yL_power wsL_power) := goodIn_app (goodIn_of _ (by decide +kernel)) ggL_plus_L_power
theorem dL_plus_0 : decode cL_plus 0 = .ok (.iconst 0, 1) := by decide +kernel
theorem dL_plus_1 : decode cL_plus 1 = .ok (.istore_n 3, 1) := by decide +kernel
theorem dL_plus_2 : decode cL_plus 2 = .ok (.iconst 4, 1) := by decide +kernel
theorem dL_plus_3 : decode cL_plus 3 = .ok (.istore 4, 2) := by decide +kernel
theorem dL_plus_5 : decode cL_plus 5 = .ok (.iload 4, 2) := by decide +kernel
theorem dL_plus_7 : decode cL_plus 7 = .ok (.ifCond .lt 37, 3) := by decide +kernel
theorem dL_plus_10 : decode cL_plus 10 = .ok (.iload_n 0, 1) := by decide +kernel
theorem dL_plus_11 : decode cL_plus 11 = .ok (.iload_n 3, 1) := by decide +kernel
theorem dL_plus_12 : decode cL_plus 12 = .ok (.imul, 1) := by decide +kernel
theorem dL_plus_13 : decode cL_plus 13 = .ok (.iload_n 1, 1) := by decide +kernel
theorem dL_plus_14 : decode cL_plus 14 = .ok (.iload_n 0, 1) := by decide +kernel
theorem dL_plus_15 : decode cL_plus 15 = .ok (.iload 4, 2) := by decide +kernel
theorem dL_plus_17 : decode cL_plus 17 = .ok (.invokestatic 60, 3) := by decide +kernel
theorem dL_plus_20 : decode cL_plus 20 = .ok (.idiv, 1) := by decide +kernel
theorem dL_plus_21 : decode cL_plus 21 = .ok (.iload_n 0, 1) := by decide +kernel
theorem dL_plus_22 : decode cL_plus 22 = .ok (.irem, 1) := by decide +kernel
theorem dL_plus_23 : decode cL_plus 23 = .ok (.iload_n 2, 1) := by decide +kernel
theorem dL_plus_24 : decode cL_plus 24 = .ok (.iload_n 0, 1) := by decide +kernel
theorem dL_plus_25 : decode cL_plus 25 = .ok (.iload 4, 2) := by decide +kernel
theorem dL_plus_27 : decode cL_plus 27 = .ok (.invokestatic 60, 3) := by decide +kernel
theorem dL_plus_30 : decode cL_plus 30 = .ok (.idiv, 1) := by decide +kernel
theorem dL_plus_31 : decode cL_plus 31 = .ok (.iload_n 0, 1) := by decide +kernel
theorem dL_plus_32 : decode cL_plus 32 = .ok (.irem, 1) := by decide +kernel
theorem dL_plus_33 : decode cL_plus 33 = .ok (.iadd, 1) := by decide +kernel
theorem dL_plus_34 : decode cL_plus 34 = .ok (.iload_n 0, 1) := by decide +kernel
theorem dL_plus_35 : decode cL_plus 35 = .ok (.irem, 1) := by decide +kernel
theorem dL_plus_36 : decode cL_plus 36 = .ok (.iadd, 1) := by decide +kernel
theorem dL_plus_37 : decode cL_plus 37 = .ok (.istore_n 3, 1) := by decide +kernel
theorem dL_plus_38 : decode cL_plus 38 = .ok (.iinc 4 (-1), 3) := by decide +kernel
theorem dL_plus_41 : decode cL_plus 41 = .ok (.goto (-36), 3) := by decide +kernel
theorem dL_plus_44 : decode cL_plus 44 = .ok (.iload_n 3, 1) := by decide +kernel
theorem dL_plus_45 : decode cL_plus 45 = .ok (.ireturn, 1) := by decide +kernel
set_option maxRecDepth 20000 in
theorem ggL_isWay_X6_formIs : GoodIn wsL_isWay wsX6_formIs := goodIn_ca (goodIn_ca (goodIn_r _ [5, 6, 7, 8, 9, 10, 11, 12, 13, 14, 15, 4, 16, 17, 18, 19, 20, 21, 22, 23, 24, 25, 26, 27, 28, 29, 30, 31, 32, 33, 34, 35, 36, 37, 38, 39, 40, 41, 42, 43, 44, 45, 46, 47, 48, 49, 50, 51, 52, 53, 54, 55, 56, 57, 58, 59, 60, 61, 62, 63, 64, 65, 66, 67, 68, 69, 70, 71, 72, 73, 74, 75, 76, 77, 78, 79, 80, 81, 82, 83, 84, 85, 86, 87, 88, 89, 90, 91, 92, 93, 94, 95, 96, 97, 98, 99, 100, 101, 102, 103, 104, 105, 106, 107, 108, 109, 110, 111, 112, 113, 114, 115, 116, 117, 118, 119, 120, 121, 122, 123, 124, 125, 126, 127, 295, 296, 297, 298, 299, 300, 301, 302, 303, 304, 305, 306, 307, 308, 309, 310, 311, 312, 313, 314, 315, 316, 317, 318, 319, 320, 321, 322] (by decide +kernel) (by decide +kernel)) (goodIn_sub (fun _ h => List.mem_cons_of_mem _ (List.mem_append_left _ (List.mem_append_left _ (List.mem_append_right _ h)))) (by decide +kernel))) (goodIn_sub (fun _ h => List.mem_cons_of_mem _ (List.mem_append_left _ (List.mem_append_right _ h))) (by decide +kernel))
set_option maxRecDepth 20000 in
theorem gL_isWay_X6_formIs : GoodIn wsL_isWay (wsV RL 17 RX6 yX6_formIs wsX6_formIs) := goodIn_app (goodIn_of _ (by decide +kernel)) ggL_isWay_X6_formIs
set_option maxRecDepth 20000 in
theorem ggL_isWay_L_ask : GoodIn wsL_isWay wsL_ask := goodIn_ca (goodIn_ca (goodIn_ca (goodIn_r _ [131, 132, 133, 134, 135, 136, 130, 137, 138, 139, 140, 4, 141, 6, 7, 27, 28, 19, 10, 142, 143, 144, 145, 67, 146, 69, 147, 148, 149, 150, 151, 152, 153, 154, 97, 98, 99, 155, 156, 157, 37, 158, 39, 159, 160, 161, 162, 163, 21, 22, 48, 49, 164, 165, 166, 167, 168, 169, 170, 171, 172, 74, 75, 76, 77, 78, 173, 174, 175, 176, 177, 178, 179, 180, 181, 182, 183, 184, 40, 41, 42, 43, 44, 45, 46, 47, 185, 186, 187, 188, 189, 190, 191, 192, 8, 9, 193, 194, 195, 196, 54, 1, 2, 3, 5, 11, 12, 13, 14, 15, 16, 17, 18, 20, 23, 24, 25, 26, 29, 30, 31, 32, 33, 34, 35, 36, 38, 50, 51, 52, 53, 55, 56, 57, 58, 59, 60, 61, 62, 63, 64, 65, 66, 68, 70, 71, 72, 73, 79, 80, 81, 82, 83, 84, 85, 86, 87, 88, 89, 90, 91, 92, 93, 94, 95, 96, 100, 101, 102, 103, 104, 105, 106, 107, 108, 109, 110, 111, 112, 113, 114, 115, 116, 117, 118, 119, 120, 121, 122, 123, 124, 125, 126, 127, 197, 198, 199, 200, 201, 202, 203, 204, 205, 206, 207, 208, 209, 210, 211, 212, 213, 214, 215, 216, 217, 218, 219, 220, 221, 222, 223, 224, 225, 226, 227, 228, 229, 230, 231, 232, 233, 234, 235, 236, 237, 238, 239, 240, 241, 242, 243, 244, 245, 246, 247, 248, 249, 250, 251, 252, 253, 254, 255, 256, 257, 258, 259, 260, 261, 262, 263, 264, 265, 266, 267, 268, 269, 270, 271, 272, 273, 274, 275, 276, 277, 278, 279, 280, 281, 282, 283, 284, 285, 286, 287, 288, 289, 290, 291, 295, 296, 297, 298, 299, 300, 301, 302, 303, 304, 305, 306, 314, 315, 316, 317, 318, 319, 320, 321, 322, 307, 308, 309, 310, 311, 312, 313] (by decide +kernel) (by decide +kernel)) (goodIn_sub (fun _ h => List.mem_cons_of_mem _ (List.mem_append_left _ (List.mem_append_left _ (List.mem_append_right _ h)))) (by decide +kernel))) (goodIn_sub (fun _ h => List.mem_cons_of_mem _ (List.mem_append_right _ h)) (by decide +kernel))) (goodIn_sub (fun _ h => List.mem_cons_of_mem _ (List.mem_append_left _ (List.mem_append_right _ h))) (by decide +kernel))
set_option maxRecDepth 20000 in
theorem gL_isWay_L_ask : GoodIn wsL_isWay (va_wsS RL 63 yL_ask wsL_ask) := goodIn_app (goodIn_of _ (by decide +kernel)) ggL_isWay_L_ask
set_option maxRecDepth 20000 in
theorem ggL_isWay_L_power : GoodIn wsL_isWay wsL_power := goodIn_r _ [294] (by decide +kernel) (by decide +kernel)
set_option maxRecDepth 20000 in
theorem gL_isWay_L_power : GoodIn wsL_isWay (va_wsS RL 60 yL_power wsL_power) := goodIn_app (goodIn_of _ (by decide +kernel)) ggL_isWay_L_power
theorem dL_isWay_0 : decode cL_isWay 0 = .ok (.aload_n 0, 1) := by decide +kernel
theorem dL_isWay_1 : decode cL_isWay 1 = .ok (.iload_n 2, 1) := by decide +kernel
theorem dL_isWay_2 : decode cL_isWay 2 = .ok (.iconst 0, 1) := by decide +kernel
theorem dL_isWay_3 : decode cL_isWay 3 = .ok (.invokevirtual 17, 3) := by decide +kernel
theorem dL_isWay_6 : decode cL_isWay 6 = .ok (.istore 4, 2) := by decide +kernel
theorem dL_isWay_8 : decode cL_isWay 8 = .ok (.aload_n 0, 1) := by decide +kernel
theorem dL_isWay_9 : decode cL_isWay 9 = .ok (.bipush 7, 2) := by decide +kernel
theorem dL_isWay_11 : decode cL_isWay 11 = .ok (.iload_n 2, 1) := by decide +kernel
theorem dL_isWay_12 : decode cL_isWay 12 = .ok (.iload_n 3, 1) := by decide +kernel
theorem dL_isWay_13 : decode cL_isWay 13 = .ok (.iconst 0, 1) := by decide +kernel
theorem dL_isWay_14 : decode cL_isWay 14 = .ok (.invokestatic 63, 3) := by decide +kernel
theorem dL_isWay_17 : decode cL_isWay 17 = .ok (.istore 5, 2) := by decide +kernel
theorem dL_isWay_19 : decode cL_isWay 19 = .ok (.aload_n 0, 1) := by decide +kernel
theorem dL_isWay_20 : decode cL_isWay 20 = .ok (.iload_n 2, 1) := by decide +kernel
theorem dL_isWay_21 : decode cL_isWay 21 = .ok (.bipush 6, 2) := by decide +kernel
theorem dL_isWay_23 : decode cL_isWay 23 = .ok (.invokevirtual 17, 3) := by decide +kernel
theorem dL_isWay_26 : decode cL_isWay 26 = .ok (.aload_n 0, 1) := by decide +kernel
theorem dL_isWay_27 : decode cL_isWay 27 = .ok (.iload_n 3, 1) := by decide +kernel
theorem dL_isWay_28 : decode cL_isWay 28 = .ok (.bipush 6, 2) := by decide +kernel
theorem dL_isWay_30 : decode cL_isWay 30 = .ok (.invokevirtual 17, 3) := by decide +kernel
theorem dL_isWay_33 : decode cL_isWay 33 = .ok (.if_icmp .ne 7, 3) := by decide +kernel
theorem dL_isWay_36 : decode cL_isWay 36 = .ok (.iconst 1, 1) := by decide +kernel
theorem dL_isWay_37 : decode cL_isWay 37 = .ok (.goto 4, 3) := by decide +kernel
theorem dL_isWay_40 : decode cL_isWay 40 = .ok (.iconst 0, 1) := by decide +kernel
theorem dL_isWay_41 : decode cL_isWay 41 = .ok (.istore 6, 2) := by decide +kernel
theorem dL_isWay_43 : decode cL_isWay 43 = .ok (.iload 5, 2) := by decide +kernel
theorem dL_isWay_45 : decode cL_isWay 45 = .ok (.iconst (-1), 1) := by decide +kernel
theorem dL_isWay_46 : decode cL_isWay 46 = .ok (.if_icmp .lt 155, 3) := by decide +kernel
theorem dL_isWay_49 : decode cL_isWay 49 = .ok (.iload 5, 2) := by decide +kernel
theorem dL_isWay_51 : decode cL_isWay 51 = .ok (.ifCond .lt 7, 3) := by decide +kernel
theorem dL_isWay_54 : decode cL_isWay 54 = .ok (.iconst 1, 1) := by decide +kernel
theorem dL_isWay_55 : decode cL_isWay 55 = .ok (.goto 4, 3) := by decide +kernel
theorem dL_isWay_58 : decode cL_isWay 58 = .ok (.iconst 0, 1) := by decide +kernel
theorem dL_isWay_59 : decode cL_isWay 59 = .ok (.iload 6, 2) := by decide +kernel
theorem dL_isWay_61 : decode cL_isWay 61 = .ok (.if_icmp .ne 140, 3) := by decide +kernel
theorem dL_isWay_64 : decode cL_isWay 64 = .ok (.iload 5, 2) := by decide +kernel
theorem dL_isWay_66 : decode cL_isWay 66 = .ok (.ifCond .ne 7, 3) := by decide +kernel
theorem dL_isWay_69 : decode cL_isWay 69 = .ok (.iconst 1, 1) := by decide +kernel
theorem dL_isWay_70 : decode cL_isWay 70 = .ok (.goto 4, 3) := by decide +kernel
theorem dL_isWay_73 : decode cL_isWay 73 = .ok (.iconst 0, 1) := by decide +kernel
theorem dL_isWay_74 : decode cL_isWay 74 = .ok (.aload_n 0, 1) := by decide +kernel
theorem dL_isWay_75 : decode cL_isWay 75 = .ok (.iload_n 2, 1) := by decide +kernel
theorem dL_isWay_76 : decode cL_isWay 76 = .ok (.iconst 1, 1) := by decide +kernel
theorem dL_isWay_77 : decode cL_isWay 77 = .ok (.invokevirtual 17, 3) := by decide +kernel
theorem dL_isWay_80 : decode cL_isWay 80 = .ok (.aload_n 0, 1) := by decide +kernel
theorem dL_isWay_81 : decode cL_isWay 81 = .ok (.iload_n 3, 1) := by decide +kernel
theorem dL_isWay_82 : decode cL_isWay 82 = .ok (.iconst 1, 1) := by decide +kernel
theorem dL_isWay_83 : decode cL_isWay 83 = .ok (.invokevirtual 17, 3) := by decide +kernel
theorem dL_isWay_86 : decode cL_isWay 86 = .ok (.if_icmp .ne 7, 3) := by decide +kernel
theorem dL_isWay_89 : decode cL_isWay 89 = .ok (.iconst 1, 1) := by decide +kernel
theorem dL_isWay_90 : decode cL_isWay 90 = .ok (.goto 4, 3) := by decide +kernel
theorem dL_isWay_93 : decode cL_isWay 93 = .ok (.iconst 0, 1) := by decide +kernel
theorem dL_isWay_94 : decode cL_isWay 94 = .ok (.if_icmp .ne 107, 3) := by decide +kernel
theorem dL_isWay_97 : decode cL_isWay 97 = .ok (.aload_n 0, 1) := by decide +kernel
theorem dL_isWay_98 : decode cL_isWay 98 = .ok (.bipush 7, 2) := by decide +kernel
theorem dL_isWay_100 : decode cL_isWay 100 = .ok (.iload_n 3, 1) := by decide +kernel
theorem dL_isWay_101 : decode cL_isWay 101 = .ok (.iload_n 2, 1) := by decide +kernel
theorem dL_isWay_102 : decode cL_isWay 102 = .ok (.iconst 0, 1) := by decide +kernel
theorem dL_isWay_103 : decode cL_isWay 103 = .ok (.invokestatic 63, 3) := by decide +kernel
theorem dL_isWay_106 : decode cL_isWay 106 = .ok (.ifCond .lt 7, 3) := by decide +kernel
theorem dL_isWay_109 : decode cL_isWay 109 = .ok (.iconst 1, 1) := by decide +kernel
theorem dL_isWay_110 : decode cL_isWay 110 = .ok (.goto 4, 3) := by decide +kernel
theorem dL_isWay_113 : decode cL_isWay 113 = .ok (.iconst 0, 1) := by decide +kernel
theorem dL_isWay_114 : decode cL_isWay 114 = .ok (.iload 6, 2) := by decide +kernel
theorem dL_isWay_116 : decode cL_isWay 116 = .ok (.if_icmp .ne 85, 3) := by decide +kernel
theorem dL_isWay_119 : decode cL_isWay 119 = .ok (.aload_n 0, 1) := by decide +kernel
theorem dL_isWay_120 : decode cL_isWay 120 = .ok (.bipush 8, 2) := by decide +kernel
theorem dL_isWay_122 : decode cL_isWay 122 = .ok (.iload_n 2, 1) := by decide +kernel
theorem dL_isWay_123 : decode cL_isWay 123 = .ok (.iload_n 3, 1) := by decide +kernel
theorem dL_isWay_124 : decode cL_isWay 124 = .ok (.iload 5, 2) := by decide +kernel
theorem dL_isWay_126 : decode cL_isWay 126 = .ok (.ifCond .ge 7, 3) := by decide +kernel
theorem dL_isWay_129 : decode cL_isWay 129 = .ok (.iconst 0, 1) := by decide +kernel
theorem dL_isWay_130 : decode cL_isWay 130 = .ok (.goto 5, 3) := by decide +kernel
theorem dL_isWay_133 : decode cL_isWay 133 = .ok (.iload 5, 2) := by decide +kernel
theorem dL_isWay_135 : decode cL_isWay 135 = .ok (.invokestatic 63, 3) := by decide +kernel
theorem dL_isWay_138 : decode cL_isWay 138 = .ok (.iconst (-1), 1) := by decide +kernel
theorem dL_isWay_139 : decode cL_isWay 139 = .ok (.if_icmp .ne 62, 3) := by decide +kernel
theorem dL_isWay_142 : decode cL_isWay 142 = .ok (.iload 5, 2) := by decide +kernel
theorem dL_isWay_144 : decode cL_isWay 144 = .ok (.iconst 1, 1) := by decide +kernel
theorem dL_isWay_145 : decode cL_isWay 145 = .ok (.if_icmp .lt 29, 3) := by decide +kernel
theorem dL_isWay_148 : decode cL_isWay 148 = .ok (.aload_n 0, 1) := by decide +kernel
theorem dL_isWay_149 : decode cL_isWay 149 = .ok (.bipush 8, 2) := by decide +kernel
theorem dL_isWay_151 : decode cL_isWay 151 = .ok (.iload_n 2, 1) := by decide +kernel
theorem dL_isWay_152 : decode cL_isWay 152 = .ok (.iload_n 3, 1) := by decide +kernel
theorem dL_isWay_153 : decode cL_isWay 153 = .ok (.iload 5, 2) := by decide +kernel
theorem dL_isWay_155 : decode cL_isWay 155 = .ok (.iconst 1, 1) := by decide +kernel
theorem dL_isWay_156 : decode cL_isWay 156 = .ok (.isub, 1) := by decide +kernel
theorem dL_isWay_157 : decode cL_isWay 157 = .ok (.invokestatic 63, 3) := by decide +kernel
theorem dL_isWay_160 : decode cL_isWay 160 = .ok (.ifCond .lt 41, 3) := by decide +kernel
theorem dL_isWay_163 : decode cL_isWay 163 = .ok (.iload 5, 2) := by decide +kernel
theorem dL_isWay_165 : decode cL_isWay 165 = .ok (.aload_n 0, 1) := by decide +kernel
theorem dL_isWay_166 : decode cL_isWay 166 = .ok (.iload_n 2, 1) := by decide +kernel
theorem dL_isWay_167 : decode cL_isWay 167 = .ok (.iconst 5, 1) := by decide +kernel
theorem dL_isWay_168 : decode cL_isWay 168 = .ok (.invokevirtual 17, 3) := by decide +kernel
theorem dL_isWay_171 : decode cL_isWay 171 = .ok (.if_icmp .ge 30, 3) := by decide +kernel
theorem dL_isWay_174 : decode cL_isWay 174 = .ok (.iload 4, 2) := by decide +kernel
theorem dL_isWay_176 : decode cL_isWay 176 = .ok (.ifCond .le 25, 3) := by decide +kernel
theorem dL_isWay_179 : decode cL_isWay 179 = .ok (.iload_n 1, 1) := by decide +kernel
theorem dL_isWay_180 : decode cL_isWay 180 = .ok (.iload 4, 2) := by decide +kernel
theorem dL_isWay_182 : decode cL_isWay 182 = .ok (.iconst 1, 1) := by decide +kernel
theorem dL_isWay_183 : decode cL_isWay 183 = .ok (.iadd, 1) := by decide +kernel
theorem dL_isWay_184 : decode cL_isWay 184 = .ok (.invokestatic 60, 3) := by decide +kernel
theorem dL_isWay_187 : decode cL_isWay 187 = .ok (.aload_n 0, 1) := by decide +kernel
theorem dL_isWay_188 : decode cL_isWay 188 = .ok (.iload_n 2, 1) := by decide +kernel
theorem dL_isWay_189 : decode cL_isWay 189 = .ok (.bipush 6, 2) := by decide +kernel
theorem dL_isWay_191 : decode cL_isWay 191 = .ok (.invokevirtual 17, 3) := by decide +kernel
theorem dL_isWay_194 : decode cL_isWay 194 = .ok (.if_icmp .le 7, 3) := by decide +kernel
theorem dL_isWay_197 : decode cL_isWay 197 = .ok (.iconst 1, 1) := by decide +kernel
theorem dL_isWay_198 : decode cL_isWay 198 = .ok (.goto 4, 3) := by decide +kernel
theorem dL_isWay_201 : decode cL_isWay 201 = .ok (.iconst 0, 1) := by decide +kernel
theorem dL_isWay_202 : decode cL_isWay 202 = .ok (.ireturn, 1) := by decide +kernel
set_option maxRecDepth 20000 in
theorem ggL_isForm_X6_formIs : GoodIn wsL_isForm wsX6_formIs := goodIn_ca (goodIn_ca (goodIn_r _ [5, 6, 7, 8, 9, 10, 11, 12, 13, 14, 15, 4, 16, 17, 18, 19, 20, 21, 22, 23, 24, 25, 26, 27, 28, 29, 30, 31, 32, 33, 34, 35, 36, 37, 38, 39, 40, 41, 42, 43, 44, 45, 46, 47, 48, 49, 50, 51, 52, 53, 54, 55, 56, 57, 58, 59, 60, 61, 62, 63, 64, 65, 66, 67, 68, 69, 70, 71, 72, 73, 74, 75, 76, 77, 78, 79, 80, 81, 82, 83, 84, 85, 86, 87, 88, 89, 90, 91, 92, 93, 94, 95, 96, 97, 98, 99, 100, 101, 102, 103, 104, 105, 106, 107, 108, 109, 110, 111, 112, 113, 114, 115, 116, 117, 118, 119, 120, 121, 122, 123, 124, 125, 126, 127, 144, 145, 146, 147, 148, 149, 150, 151, 152, 153, 154, 155, 156, 157, 158, 159, 160, 161, 162, 163, 164, 165, 166, 167, 168, 169, 170, 171] (by decide +kernel) (by decide +kernel)) (goodIn_sub (fun _ h => List.mem_cons_of_mem _ (List.mem_append_left _ (List.mem_append_right _ h))) (by decide +kernel))) (goodIn_sub (fun _ h => List.mem_cons_of_mem _ (List.mem_append_right _ h)) (by decide +kernel))
set_option maxRecDepth 20000 in
theorem gL_isForm_X6_formIs : GoodIn wsL_isForm (wsV RL 17 RX6 yX6_formIs wsX6_formIs) := goodIn_app (goodIn_of _ (by decide +kernel)) ggL_isForm_X6_formIs
set_option maxRecDepth 20000 in
theorem ggL_isForm_X6_multiplicity : GoodIn wsL_isForm wsX6_multiplicity := goodIn_ca (goodIn_r _ [131, 17, 18, 27, 28, 8, 9, 13, 14, 15, 4, 16, 19, 20, 21, 22, 29, 30, 31, 32, 33, 34, 35, 36, 37, 38, 39, 40, 41, 42, 43, 44, 45, 46, 47, 48, 49, 50, 51, 52, 53, 54, 55, 56, 57, 58, 59, 144, 145, 146, 147, 148, 149, 150, 151, 152, 153, 154, 155, 163] (by decide +kernel) (by decide +kernel)) (goodIn_sub (fun _ h => List.mem_cons_of_mem _ (List.mem_append_right _ h)) (by decide +kernel))
set_option maxRecDepth 20000 in
theorem gL_isForm_X6_multiplicity : GoodIn wsL_isForm (wsV RL 39 RX6 yX6_multiplicity wsX6_multiplicity) := goodIn_app (goodIn_of _ (by decide +kernel)) ggL_isForm_X6_multiplicity
set_option maxRecDepth 20000 in
theorem ggL_isForm_X6_at : GoodIn wsL_isForm wsX6_at := goodIn_ca (goodIn_ca (goodIn_r _ [135, 6, 7, 27, 8, 9, 33, 13, 14, 15, 4, 16, 17, 18, 19, 136, 137, 138, 37, 139, 39, 20, 21, 22, 34, 35, 36, 38, 40, 41, 42, 43, 44, 45, 46, 47, 48, 49, 140, 141, 142, 143, 59, 144, 145, 146, 147, 148, 149, 150, 151, 152, 153, 154, 155, 163] (by decide +kernel) (by decide +kernel)) (goodIn_sub (fun _ h => List.mem_cons_of_mem _ (List.mem_append_left _ (List.mem_append_right _ h))) (by decide +kernel))) (goodIn_sub (fun _ h => List.mem_cons_of_mem _ (List.mem_append_right _ h)) (by decide +kernel))
set_option maxRecDepth 20000 in
theorem gL_isForm_X6_at : GoodIn wsL_isForm (wsV RL 66 RX6 yX6_at wsX6_at) := goodIn_app (goodIn_of _ (by decide +kernel)) ggL_isForm_X6_at
theorem dL_isForm_0 : decode cL_isForm 0 = .ok (.aload_n 0, 1) := by decide +kernel
theorem dL_isForm_1 : decode cL_isForm 1 = .ok (.iload_n 2, 1) := by decide +kernel
theorem dL_isForm_2 : decode cL_isForm 2 = .ok (.iconst 0, 1) := by decide +kernel
theorem dL_isForm_3 : decode cL_isForm 3 = .ok (.invokevirtual 17, 3) := by decide +kernel
theorem dL_isForm_6 : decode cL_isForm 6 = .ok (.istore 4, 2) := by decide +kernel
theorem dL_isForm_8 : decode cL_isForm 8 = .ok (.aload_n 0, 1) := by decide +kernel
theorem dL_isForm_9 : decode cL_isForm 9 = .ok (.iload_n 2, 1) := by decide +kernel
theorem dL_isForm_10 : decode cL_isForm 10 = .ok (.iconst 1, 1) := by decide +kernel
theorem dL_isForm_11 : decode cL_isForm 11 = .ok (.invokevirtual 17, 3) := by decide +kernel
theorem dL_isForm_14 : decode cL_isForm 14 = .ok (.istore 5, 2) := by decide +kernel
theorem dL_isForm_16 : decode cL_isForm 16 = .ok (.iconst 0, 1) := by decide +kernel
theorem dL_isForm_17 : decode cL_isForm 17 = .ok (.istore 6, 2) := by decide +kernel
theorem dL_isForm_19 : decode cL_isForm 19 = .ok (.iconst 0, 1) := by decide +kernel
theorem dL_isForm_20 : decode cL_isForm 20 = .ok (.istore 7, 2) := by decide +kernel
theorem dL_isForm_22 : decode cL_isForm 22 = .ok (.iconst 0, 1) := by decide +kernel
theorem dL_isForm_23 : decode cL_isForm 23 = .ok (.istore 8, 2) := by decide +kernel
theorem dL_isForm_25 : decode cL_isForm 25 = .ok (.iconst 0, 1) := by decide +kernel
theorem dL_isForm_26 : decode cL_isForm 26 = .ok (.istore 9, 2) := by decide +kernel
theorem dL_isForm_28 : decode cL_isForm 28 = .ok (.iload 9, 2) := by decide +kernel
theorem dL_isForm_30 : decode cL_isForm 30 = .ok (.iload_n 1, 1) := by decide +kernel
theorem dL_isForm_31 : decode cL_isForm 31 = .ok (.if_icmp .gt 56, 3) := by decide +kernel
theorem dL_isForm_34 : decode cL_isForm 34 = .ok (.aload_n 0, 1) := by decide +kernel
theorem dL_isForm_35 : decode cL_isForm 35 = .ok (.iload_n 2, 1) := by decide +kernel
theorem dL_isForm_36 : decode cL_isForm 36 = .ok (.iload 9, 2) := by decide +kernel
theorem dL_isForm_38 : decode cL_isForm 38 = .ok (.invokevirtual 39, 3) := by decide +kernel
theorem dL_isForm_41 : decode cL_isForm 41 = .ok (.istore 10, 2) := by decide +kernel
theorem dL_isForm_43 : decode cL_isForm 43 = .ok (.iload 6, 2) := by decide +kernel
theorem dL_isForm_45 : decode cL_isForm 45 = .ok (.iload 10, 2) := by decide +kernel
theorem dL_isForm_47 : decode cL_isForm 47 = .ok (.ifCond .le 7, 3) := by decide +kernel
theorem dL_isForm_50 : decode cL_isForm 50 = .ok (.iconst 1, 1) := by decide +kernel
theorem dL_isForm_51 : decode cL_isForm 51 = .ok (.goto 4, 3) := by decide +kernel
theorem dL_isForm_54 : decode cL_isForm 54 = .ok (.iconst 0, 1) := by decide +kernel
theorem dL_isForm_55 : decode cL_isForm 55 = .ok (.iadd, 1) := by decide +kernel
theorem dL_isForm_56 : decode cL_isForm 56 = .ok (.istore 6, 2) := by decide +kernel
theorem dL_isForm_58 : decode cL_isForm 58 = .ok (.iload 7, 2) := by decide +kernel
theorem dL_isForm_60 : decode cL_isForm 60 = .ok (.iload 10, 2) := by decide +kernel
theorem dL_isForm_62 : decode cL_isForm 62 = .ok (.iadd, 1) := by decide +kernel
theorem dL_isForm_63 : decode cL_isForm 63 = .ok (.istore 7, 2) := by decide +kernel
theorem dL_isForm_65 : decode cL_isForm 65 = .ok (.iload 10, 2) := by decide +kernel
theorem dL_isForm_67 : decode cL_isForm 67 = .ok (.iload 8, 2) := by decide +kernel
theorem dL_isForm_69 : decode cL_isForm 69 = .ok (.if_icmp .le 8, 3) := by decide +kernel
theorem dL_isForm_72 : decode cL_isForm 72 = .ok (.iload 10, 2) := by decide +kernel
theorem dL_isForm_74 : decode cL_isForm 74 = .ok (.goto 5, 3) := by decide +kernel
theorem dL_isForm_77 : decode cL_isForm 77 = .ok (.iload 8, 2) := by decide +kernel
theorem dL_isForm_79 : decode cL_isForm 79 = .ok (.istore 8, 2) := by decide +kernel
theorem dL_isForm_81 : decode cL_isForm 81 = .ok (.iinc 9 1, 3) := by decide +kernel
theorem dL_isForm_84 : decode cL_isForm 84 = .ok (.goto (-56), 3) := by decide +kernel
theorem dL_isForm_87 : decode cL_isForm 87 = .ok (.iload 6, 2) := by decide +kernel
theorem dL_isForm_89 : decode cL_isForm 89 = .ok (.aload_n 0, 1) := by decide +kernel
theorem dL_isForm_90 : decode cL_isForm 90 = .ok (.iload_n 2, 1) := by decide +kernel
theorem dL_isForm_91 : decode cL_isForm 91 = .ok (.iconst 2, 1) := by decide +kernel
theorem dL_isForm_92 : decode cL_isForm 92 = .ok (.invokevirtual 17, 3) := by decide +kernel
theorem dL_isForm_95 : decode cL_isForm 95 = .ok (.if_icmp .ne 67, 3) := by decide +kernel
theorem dL_isForm_98 : decode cL_isForm 98 = .ok (.iconst 2, 1) := by decide +kernel
theorem dL_isForm_99 : decode cL_isForm 99 = .ok (.iload 8, 2) := by decide +kernel
theorem dL_isForm_101 : decode cL_isForm 101 = .ok (.imul, 1) := by decide +kernel
theorem dL_isForm_102 : decode cL_isForm 102 = .ok (.iload 4, 2) := by decide +kernel
theorem dL_isForm_104 : decode cL_isForm 104 = .ok (.if_icmp .le 7, 3) := by decide +kernel
theorem dL_isForm_107 : decode cL_isForm 107 = .ok (.iconst 1, 1) := by decide +kernel
theorem dL_isForm_108 : decode cL_isForm 108 = .ok (.goto 4, 3) := by decide +kernel
theorem dL_isForm_111 : decode cL_isForm 111 = .ok (.iconst 0, 1) := by decide +kernel
theorem dL_isForm_112 : decode cL_isForm 112 = .ok (.aload_n 0, 1) := by decide +kernel
theorem dL_isForm_113 : decode cL_isForm 113 = .ok (.iload_n 2, 1) := by decide +kernel
theorem dL_isForm_114 : decode cL_isForm 114 = .ok (.iconst 3, 1) := by decide +kernel
theorem dL_isForm_115 : decode cL_isForm 115 = .ok (.invokevirtual 17, 3) := by decide +kernel
theorem dL_isForm_118 : decode cL_isForm 118 = .ok (.iconst 1, 1) := by decide +kernel
theorem dL_isForm_119 : decode cL_isForm 119 = .ok (.if_icmp .ne 7, 3) := by decide +kernel
theorem dL_isForm_122 : decode cL_isForm 122 = .ok (.iconst 1, 1) := by decide +kernel
theorem dL_isForm_123 : decode cL_isForm 123 = .ok (.goto 4, 3) := by decide +kernel
theorem dL_isForm_126 : decode cL_isForm 126 = .ok (.iconst 0, 1) := by decide +kernel
theorem dL_isForm_127 : decode cL_isForm 127 = .ok (.if_icmp .ne 35, 3) := by decide +kernel
theorem dL_isForm_130 : decode cL_isForm 130 = .ok (.iload 5, 2) := by decide +kernel
theorem dL_isForm_132 : decode cL_isForm 132 = .ok (.ifCond .ne 19, 3) := by decide +kernel
theorem dL_isForm_135 : decode cL_isForm 135 = .ok (.iload 7, 2) := by decide +kernel
theorem dL_isForm_137 : decode cL_isForm 137 = .ok (.iload_n 1, 1) := by decide +kernel
theorem dL_isForm_138 : decode cL_isForm 138 = .ok (.iconst 1, 1) := by decide +kernel
theorem dL_isForm_139 : decode cL_isForm 139 = .ok (.iadd, 1) := by decide +kernel
theorem dL_isForm_140 : decode cL_isForm 140 = .ok (.iload 4, 2) := by decide +kernel
theorem dL_isForm_142 : decode cL_isForm 142 = .ok (.iconst 1, 1) := by decide +kernel
theorem dL_isForm_143 : decode cL_isForm 143 = .ok (.iadd, 1) := by decide +kernel
theorem dL_isForm_144 : decode cL_isForm 144 = .ok (.imul, 1) := by decide +kernel
theorem dL_isForm_145 : decode cL_isForm 145 = .ok (.if_icmp .ne 17, 3) := by decide +kernel
theorem dL_isForm_148 : decode cL_isForm 148 = .ok (.goto 10, 3) := by decide +kernel
theorem dL_isForm_151 : decode cL_isForm 151 = .ok (.iload 7, 2) := by decide +kernel
theorem dL_isForm_153 : decode cL_isForm 153 = .ok (.iload 4, 2) := by decide +kernel
theorem dL_isForm_155 : decode cL_isForm 155 = .ok (.if_icmp .gt 7, 3) := by decide +kernel
theorem dL_isForm_158 : decode cL_isForm 158 = .ok (.iconst 1, 1) := by decide +kernel
theorem dL_isForm_159 : decode cL_isForm 159 = .ok (.goto 4, 3) := by decide +kernel
theorem dL_isForm_162 : decode cL_isForm 162 = .ok (.iconst 0, 1) := by decide +kernel
theorem dL_isForm_163 : decode cL_isForm 163 = .ok (.istore 9, 2) := by decide +kernel
theorem dL_isForm_165 : decode cL_isForm 165 = .ok (.iconst 0, 1) := by decide +kernel
theorem dL_isForm_166 : decode cL_isForm 166 = .ok (.istore 10, 2) := by decide +kernel
theorem dL_isForm_168 : decode cL_isForm 168 = .ok (.iload 10, 2) := by decide +kernel
theorem dL_isForm_170 : decode cL_isForm 170 = .ok (.iload_n 1, 1) := by decide +kernel
theorem dL_isForm_171 : decode cL_isForm 171 = .ok (.if_icmp .ge 83, 3) := by decide +kernel
theorem dL_isForm_174 : decode cL_isForm 174 = .ok (.iload 9, 2) := by decide +kernel
theorem dL_isForm_176 : decode cL_isForm 176 = .ok (.ifCond .eq 78, 3) := by decide +kernel
theorem dL_isForm_179 : decode cL_isForm 179 = .ok (.aload_n 0, 1) := by decide +kernel
theorem dL_isForm_180 : decode cL_isForm 180 = .ok (.iload_n 2, 1) := by decide +kernel
theorem dL_isForm_181 : decode cL_isForm 181 = .ok (.iload 10, 2) := by decide +kernel
theorem dL_isForm_183 : decode cL_isForm 183 = .ok (.iconst 1, 1) := by decide +kernel
theorem dL_isForm_184 : decode cL_isForm 184 = .ok (.invokevirtual 66, 3) := by decide +kernel
theorem dL_isForm_187 : decode cL_isForm 187 = .ok (.ifCond .ne 7, 3) := by decide +kernel
theorem dL_isForm_190 : decode cL_isForm 190 = .ok (.iconst 1, 1) := by decide +kernel
theorem dL_isForm_191 : decode cL_isForm 191 = .ok (.goto 4, 3) := by decide +kernel
theorem dL_isForm_194 : decode cL_isForm 194 = .ok (.iconst 0, 1) := by decide +kernel
theorem dL_isForm_195 : decode cL_isForm 195 = .ok (.aload_n 0, 1) := by decide +kernel
theorem dL_isForm_196 : decode cL_isForm 196 = .ok (.iload_n 2, 1) := by decide +kernel
theorem dL_isForm_197 : decode cL_isForm 197 = .ok (.iload 10, 2) := by decide +kernel
theorem dL_isForm_199 : decode cL_isForm 199 = .ok (.invokevirtual 39, 3) := by decide +kernel
theorem dL_isForm_202 : decode cL_isForm 202 = .ok (.ifCond .le 7, 3) := by decide +kernel
theorem dL_isForm_205 : decode cL_isForm 205 = .ok (.iconst 1, 1) := by decide +kernel
theorem dL_isForm_206 : decode cL_isForm 206 = .ok (.goto 4, 3) := by decide +kernel
theorem dL_isForm_209 : decode cL_isForm 209 = .ok (.iconst 0, 1) := by decide +kernel
theorem dL_isForm_210 : decode cL_isForm 210 = .ok (.if_icmp .ne 35, 3) := by decide +kernel
theorem dL_isForm_213 : decode cL_isForm 213 = .ok (.aload_n 0, 1) := by decide +kernel
theorem dL_isForm_214 : decode cL_isForm 214 = .ok (.iload_n 2, 1) := by decide +kernel
theorem dL_isForm_215 : decode cL_isForm 215 = .ok (.iconst 0, 1) := by decide +kernel
theorem dL_isForm_216 : decode cL_isForm 216 = .ok (.iload 10, 2) := by decide +kernel
theorem dL_isForm_218 : decode cL_isForm 218 = .ok (.invokevirtual 66, 3) := by decide +kernel
theorem dL_isForm_221 : decode cL_isForm 221 = .ok (.iload 10, 2) := by decide +kernel
theorem dL_isForm_223 : decode cL_isForm 223 = .ok (.ifCond .ne 7, 3) := by decide +kernel
theorem dL_isForm_226 : decode cL_isForm 226 = .ok (.iconst 0, 1) := by decide +kernel
theorem dL_isForm_227 : decode cL_isForm 227 = .ok (.goto 11, 3) := by decide +kernel
theorem dL_isForm_230 : decode cL_isForm 230 = .ok (.aload_n 0, 1) := by decide +kernel
theorem dL_isForm_231 : decode cL_isForm 231 = .ok (.iload_n 2, 1) := by decide +kernel
theorem dL_isForm_232 : decode cL_isForm 232 = .ok (.iconst 0, 1) := by decide +kernel
theorem dL_isForm_233 : decode cL_isForm 233 = .ok (.iload 10, 2) := by decide +kernel
theorem dL_isForm_235 : decode cL_isForm 235 = .ok (.invokevirtual 66, 3) := by decide +kernel
theorem dL_isForm_238 : decode cL_isForm 238 = .ok (.if_icmp .ne 7, 3) := by decide +kernel
theorem dL_isForm_241 : decode cL_isForm 241 = .ok (.iconst 1, 1) := by decide +kernel
theorem dL_isForm_242 : decode cL_isForm 242 = .ok (.goto 4, 3) := by decide +kernel
theorem dL_isForm_245 : decode cL_isForm 245 = .ok (.iconst 0, 1) := by decide +kernel
theorem dL_isForm_246 : decode cL_isForm 246 = .ok (.istore 9, 2) := by decide +kernel
theorem dL_isForm_248 : decode cL_isForm 248 = .ok (.iinc 10 1, 3) := by decide +kernel
theorem dL_isForm_251 : decode cL_isForm 251 = .ok (.goto (-83), 3) := by decide +kernel
theorem dL_isForm_254 : decode cL_isForm 254 = .ok (.iload 9, 2) := by decide +kernel
theorem dL_isForm_256 : decode cL_isForm 256 = .ok (.ifCond .eq 76, 3) := by decide +kernel
theorem dL_isForm_259 : decode cL_isForm 259 = .ok (.aload_n 0, 1) := by decide +kernel
theorem dL_isForm_260 : decode cL_isForm 260 = .ok (.iload_n 2, 1) := by decide +kernel
theorem dL_isForm_261 : decode cL_isForm 261 = .ok (.iconst 1, 1) := by decide +kernel
theorem dL_isForm_262 : decode cL_isForm 262 = .ok (.iconst 0, 1) := by decide +kernel
theorem dL_isForm_263 : decode cL_isForm 263 = .ok (.invokevirtual 66, 3) := by decide +kernel
theorem dL_isForm_266 : decode cL_isForm 266 = .ok (.ifCond .ne 7, 3) := by decide +kernel
theorem dL_isForm_269 : decode cL_isForm 269 = .ok (.iconst 1, 1) := by decide +kernel
theorem dL_isForm_270 : decode cL_isForm 270 = .ok (.goto 4, 3) := by decide +kernel
theorem dL_isForm_273 : decode cL_isForm 273 = .ok (.iconst 0, 1) := by decide +kernel
theorem dL_isForm_274 : decode cL_isForm 274 = .ok (.aload_n 0, 1) := by decide +kernel
theorem dL_isForm_275 : decode cL_isForm 275 = .ok (.iload_n 2, 1) := by decide +kernel
theorem dL_isForm_276 : decode cL_isForm 276 = .ok (.iload_n 1, 1) := by decide +kernel
theorem dL_isForm_277 : decode cL_isForm 277 = .ok (.invokevirtual 39, 3) := by decide +kernel
theorem dL_isForm_280 : decode cL_isForm 280 = .ok (.ifCond .le 7, 3) := by decide +kernel
theorem dL_isForm_283 : decode cL_isForm 283 = .ok (.iconst 1, 1) := by decide +kernel
theorem dL_isForm_284 : decode cL_isForm 284 = .ok (.goto 4, 3) := by decide +kernel
theorem dL_isForm_287 : decode cL_isForm 287 = .ok (.iconst 0, 1) := by decide +kernel
theorem dL_isForm_288 : decode cL_isForm 288 = .ok (.if_icmp .ne 44, 3) := by decide +kernel
theorem dL_isForm_291 : decode cL_isForm 291 = .ok (.iload_n 3, 1) := by decide +kernel
theorem dL_isForm_292 : decode cL_isForm 292 = .ok (.ifCond .eq 36, 3) := by decide +kernel
theorem dL_isForm_295 : decode cL_isForm 295 = .ok (.aload_n 0, 1) := by decide +kernel
theorem dL_isForm_296 : decode cL_isForm 296 = .ok (.iload_n 2, 1) := by decide +kernel
theorem dL_isForm_297 : decode cL_isForm 297 = .ok (.iconst 4, 1) := by decide +kernel
theorem dL_isForm_298 : decode cL_isForm 298 = .ok (.invokevirtual 17, 3) := by decide +kernel
theorem dL_isForm_301 : decode cL_isForm 301 = .ok (.iconst 1, 1) := by decide +kernel
theorem dL_isForm_302 : decode cL_isForm 302 = .ok (.if_icmp .ne 7, 3) := by decide +kernel
theorem dL_isForm_305 : decode cL_isForm 305 = .ok (.iconst 1, 1) := by decide +kernel
theorem dL_isForm_306 : decode cL_isForm 306 = .ok (.goto 4, 3) := by decide +kernel
theorem dL_isForm_309 : decode cL_isForm 309 = .ok (.iconst 0, 1) := by decide +kernel
theorem dL_isForm_310 : decode cL_isForm 310 = .ok (.aload_n 0, 1) := by decide +kernel
theorem dL_isForm_311 : decode cL_isForm 311 = .ok (.iload_n 2, 1) := by decide +kernel
theorem dL_isForm_312 : decode cL_isForm 312 = .ok (.iconst 5, 1) := by decide +kernel
theorem dL_isForm_313 : decode cL_isForm 313 = .ok (.invokevirtual 17, 3) := by decide +kernel
theorem dL_isForm_316 : decode cL_isForm 316 = .ok (.iconst 1, 1) := by decide +kernel
theorem dL_isForm_317 : decode cL_isForm 317 = .ok (.if_icmp .ne 7, 3) := by decide +kernel
theorem dL_isForm_320 : decode cL_isForm 320 = .ok (.iconst 1, 1) := by decide +kernel
theorem dL_isForm_321 : decode cL_isForm 321 = .ok (.goto 4, 3) := by decide +kernel
theorem dL_isForm_324 : decode cL_isForm 324 = .ok (.iconst 0, 1) := by decide +kernel
theorem dL_isForm_325 : decode cL_isForm 325 = .ok (.if_icmp .ne 7, 3) := by decide +kernel
theorem dL_isForm_328 : decode cL_isForm 328 = .ok (.iconst 1, 1) := by decide +kernel
theorem dL_isForm_329 : decode cL_isForm 329 = .ok (.goto 4, 3) := by decide +kernel
theorem dL_isForm_332 : decode cL_isForm 332 = .ok (.iconst 0, 1) := by decide +kernel
theorem dL_isForm_333 : decode cL_isForm 333 = .ok (.ireturn, 1) := by decide +kernel
