set_option maxRecDepth 20000 in
theorem ggL_prime_X6_prime : GoodIn wsL_prime wsX6_prime := goodIn_ca (goodIn_r _ [6, 7, 8, 9, 10, 11, 12, 13, 14, 15, 16, 17, 18, 19, 20, 21, 22, 23, 24, 25, 26, 27, 28, 29, 30, 31, 32, 33, 34, 35, 36, 37, 38, 39, 40, 41, 42, 5, 43, 44, 45, 46, 47, 48, 49, 50, 51, 52, 53, 54, 55, 56, 57, 58, 59, 60, 61, 62, 63, 64, 65, 66, 67, 68, 69, 70, 71, 72, 73, 74, 75, 76, 77, 78, 79, 80, 81, 82, 83, 84, 85, 86, 87, 88, 89, 90, 91, 92, 93, 94, 95, 96, 97, 98, 99, 100, 101, 102] (by decide +kernel) (by decide +kernel)) (goodIn_sub (fun _ h => List.mem_cons_of_mem _ (List.mem_append_right _ h)) (by decide +kernel))
set_option maxRecDepth 20000 in
theorem gL_prime_X6_prime : GoodIn wsL_prime (wsV RL 7 RX6 yX6_prime wsX6_prime) := goodIn_app (goodIn_of _ (by decide +kernel)) ggL_prime_X6_prime
theorem dL_prime_0 : decode cL_prime 0 = .ok (.aload_n 2, 1) := by decide +kernel
theorem dL_prime_1 : decode cL_prime 1 = .ok (.iconst 0, 1) := by decide +kernel
theorem dL_prime_2 : decode cL_prime 2 = .ok (.aload_n 0, 1) := by decide +kernel
theorem dL_prime_3 : decode cL_prime 3 = .ok (.iload_n 1, 1) := by decide +kernel
theorem dL_prime_4 : decode cL_prime 4 = .ok (.invokevirtual 7, 3) := by decide +kernel
theorem dL_prime_7 : decode cL_prime 7 = .ok (.i2l, 1) := by decide +kernel
theorem dL_prime_8 : decode cL_prime 8 = .ok (.lastore, 1) := by decide +kernel
theorem dL_prime_9 : decode cL_prime 9 = .ok (.goto 6, 3) := by decide +kernel
theorem dL_prime_12 : decode cL_prime 12 = .ok (.astore_n 3, 1) := by decide +kernel
theorem dL_prime_13 : decode cL_prime 13 = .ok (.iconst 1, 1) := by decide +kernel
theorem dL_prime_14 : decode cL_prime 14 = .ok (.ireturn, 1) := by decide +kernel
theorem dL_prime_15 : decode cL_prime 15 = .ok (.iconst 0, 1) := by decide +kernel
theorem dL_prime_16 : decode cL_prime 16 = .ok (.ireturn, 1) := by decide +kernel
set_option maxRecDepth 20000 in
theorem ggL_form_X6_form : GoodIn wsL_form wsX6_form := goodIn_ca (goodIn_ca (goodIn_r _ [7, 8, 9, 10, 11, 12, 13, 14, 15, 16, 17, 6, 18, 19, 20, 21, 22, 23, 24, 25, 26, 27, 28, 29, 30, 31, 32, 33, 34, 35, 36, 37, 38, 39, 40] (by decide +kernel) (by decide +kernel)) (goodIn_sub (fun _ h => List.mem_cons_of_mem _ (List.mem_append_left _ (List.mem_append_right _ h))) (by decide +kernel))) (goodIn_sub (fun _ h => List.mem_cons_of_mem _ (List.mem_append_right _ h)) (by decide +kernel))
set_option maxRecDepth 20000 in
theorem gL_form_X6_form : GoodIn wsL_form (wsV RL 15 RX6 yX6_form wsX6_form) := goodIn_app (goodIn_of _ (by decide +kernel)) ggL_form_X6_form
theorem dL_form_0 : decode cL_form 0 = .ok (.aload_n 3, 1) := by decide +kernel
theorem dL_form_1 : decode cL_form 1 = .ok (.iconst 0, 1) := by decide +kernel
theorem dL_form_2 : decode cL_form 2 = .ok (.aload_n 0, 1) := by decide +kernel
theorem dL_form_3 : decode cL_form 3 = .ok (.iload_n 1, 1) := by decide +kernel
theorem dL_form_4 : decode cL_form 4 = .ok (.iload_n 2, 1) := by decide +kernel
theorem dL_form_5 : decode cL_form 5 = .ok (.invokevirtual 15, 3) := by decide +kernel
theorem dL_form_8 : decode cL_form 8 = .ok (.i2l, 1) := by decide +kernel
theorem dL_form_9 : decode cL_form 9 = .ok (.lastore, 1) := by decide +kernel
theorem dL_form_10 : decode cL_form 10 = .ok (.goto 11, 3) := by decide +kernel
theorem dL_form_13 : decode cL_form 13 = .ok (.astore 4, 2) := by decide +kernel
theorem dL_form_15 : decode cL_form 15 = .ok (.iconst 1, 1) := by decide +kernel
theorem dL_form_16 : decode cL_form 16 = .ok (.ireturn, 1) := by decide +kernel
theorem dL_form_17 : decode cL_form 17 = .ok (.astore 4, 2) := by decide +kernel
theorem dL_form_19 : decode cL_form 19 = .ok (.iconst 2, 1) := by decide +kernel
theorem dL_form_20 : decode cL_form 20 = .ok (.ireturn, 1) := by decide +kernel
theorem dL_form_21 : decode cL_form 21 = .ok (.iconst 0, 1) := by decide +kernel
theorem dL_form_22 : decode cL_form 22 = .ok (.ireturn, 1) := by decide +kernel
set_option maxRecDepth 20000 in
theorem ggL_formIs_X6_formIs : GoodIn wsL_formIs wsX6_formIs := goodIn_ca (goodIn_ca (goodIn_r _ [7, 8, 9, 10, 11, 12, 13, 14, 15, 16, 17, 6, 18, 19, 20, 21, 22, 23, 24, 25, 26, 27, 28, 29, 30, 31, 32, 33, 34, 35, 36, 37, 38, 39, 40, 41, 42, 43, 44, 45, 46, 47, 48, 49, 50, 51, 52, 53, 54, 55, 56, 57, 58, 59, 60, 61, 62, 63, 64, 65, 66, 67, 68, 69, 70, 71, 72, 73, 74, 75, 76, 77, 78, 79, 80, 81, 82, 83, 84, 85, 86, 87, 88, 89, 90, 91, 92, 93, 94, 95, 96, 97, 98, 99, 100, 101, 102, 103, 104, 105, 106, 107, 108, 109, 110, 111, 112, 113, 114, 115, 116, 117, 118, 119, 120, 121, 122, 123, 124, 125, 126, 127, 128, 129, 130, 131, 132, 133, 134, 135, 136, 137, 138, 139, 140, 141, 142, 143, 144, 145, 146, 147, 148, 149, 150, 151, 152, 153, 154, 155, 156, 157] (by decide +kernel) (by decide +kernel)) (goodIn_sub (fun _ h => List.mem_cons_of_mem _ (List.mem_append_left _ (List.mem_append_right _ h))) (by decide +kernel))) (goodIn_sub (fun _ h => List.mem_cons_of_mem _ (List.mem_append_right _ h)) (by decide +kernel))
set_option maxRecDepth 20000 in
theorem gL_formIs_X6_formIs : GoodIn wsL_formIs (wsV RL 21 RX6 yX6_formIs wsX6_formIs) := goodIn_app (goodIn_of _ (by decide +kernel)) ggL_formIs_X6_formIs
theorem dL_formIs_0 : decode cL_formIs 0 = .ok (.aload_n 3, 1) := by decide +kernel
theorem dL_formIs_1 : decode cL_formIs 1 = .ok (.iconst 0, 1) := by decide +kernel
theorem dL_formIs_2 : decode cL_formIs 2 = .ok (.aload_n 0, 1) := by decide +kernel
theorem dL_formIs_3 : decode cL_formIs 3 = .ok (.iload_n 1, 1) := by decide +kernel
theorem dL_formIs_4 : decode cL_formIs 4 = .ok (.iload_n 2, 1) := by decide +kernel
theorem dL_formIs_5 : decode cL_formIs 5 = .ok (.invokevirtual 21, 3) := by decide +kernel
theorem dL_formIs_8 : decode cL_formIs 8 = .ok (.i2l, 1) := by decide +kernel
theorem dL_formIs_9 : decode cL_formIs 9 = .ok (.lastore, 1) := by decide +kernel
theorem dL_formIs_10 : decode cL_formIs 10 = .ok (.goto 11, 3) := by decide +kernel
theorem dL_formIs_13 : decode cL_formIs 13 = .ok (.astore 4, 2) := by decide +kernel
theorem dL_formIs_15 : decode cL_formIs 15 = .ok (.iconst 1, 1) := by decide +kernel
theorem dL_formIs_16 : decode cL_formIs 16 = .ok (.ireturn, 1) := by decide +kernel
theorem dL_formIs_17 : decode cL_formIs 17 = .ok (.astore 4, 2) := by decide +kernel
theorem dL_formIs_19 : decode cL_formIs 19 = .ok (.iconst 2, 1) := by decide +kernel
theorem dL_formIs_20 : decode cL_formIs 20 = .ok (.ireturn, 1) := by decide +kernel
theorem dL_formIs_21 : decode cL_formIs 21 = .ok (.iconst 0, 1) := by decide +kernel
theorem dL_formIs_22 : decode cL_formIs 22 = .ok (.ireturn, 1) := by decide +kernel
set_option maxRecDepth 20000 in
theorem ggL_at_X6_at : GoodIn wsL_at wsX6_at := goodIn_ca (goodIn_ca (goodIn_r _ [7, 8, 9, 10, 11, 12, 13, 14, 15, 16, 6, 17, 18, 19, 20, 21, 22, 23, 24, 25, 26, 27, 28, 29, 30, 31, 32, 33, 34, 35, 36, 37, 38, 39, 40, 41, 42, 43, 44, 45, 46, 47, 48, 49, 50, 51, 52, 53, 54, 55, 56, 57, 58, 59, 60, 61] (by decide +kernel) (by decide +kernel)) (goodIn_sub (fun _ h => List.mem_cons_of_mem _ (List.mem_append_left _ (List.mem_append_right _ h))) (by decide +kernel))) (goodIn_sub (fun _ h => List.mem_cons_of_mem _ (List.mem_append_right _ h)) (by decide +kernel))
set_option maxRecDepth 20000 in
theorem gL_at_X6_at : GoodIn wsL_at (wsV RL 26 RX6 yX6_at wsX6_at) := goodIn_app (goodIn_of _ (by decide +kernel)) ggL_at_X6_at
theorem dL_at_0 : decode cL_at 0 = .ok (.aload 4, 2) := by decide +kernel
theorem dL_at_2 : decode cL_at 2 = .ok (.iconst 0, 1) := by decide +kernel
theorem dL_at_3 : decode cL_at 3 = .ok (.aload_n 0, 1) := by decide +kernel
theorem dL_at_4 : decode cL_at 4 = .ok (.iload_n 1, 1) := by decide +kernel
theorem dL_at_5 : decode cL_at 5 = .ok (.iload_n 2, 1) := by decide +kernel
theorem dL_at_6 : decode cL_at 6 = .ok (.iload_n 3, 1) := by decide +kernel
theorem dL_at_7 : decode cL_at 7 = .ok (.invokevirtual 26, 3) := by decide +kernel
theorem dL_at_10 : decode cL_at 10 = .ok (.i2l, 1) := by decide +kernel
theorem dL_at_11 : decode cL_at 11 = .ok (.lastore, 1) := by decide +kernel
theorem dL_at_12 : decode cL_at 12 = .ok (.goto 11, 3) := by decide +kernel
theorem dL_at_15 : decode cL_at 15 = .ok (.astore 5, 2) := by decide +kernel
theorem dL_at_17 : decode cL_at 17 = .ok (.iconst 1, 1) := by decide +kernel
theorem dL_at_18 : decode cL_at 18 = .ok (.ireturn, 1) := by decide +kernel
theorem dL_at_19 : decode cL_at 19 = .ok (.astore 5, 2) := by decide +kernel
theorem dL_at_21 : decode cL_at 21 = .ok (.iconst 2, 1) := by decide +kernel
theorem dL_at_22 : decode cL_at 22 = .ok (.ireturn, 1) := by decide +kernel
theorem dL_at_23 : decode cL_at 23 = .ok (.iconst 0, 1) := by decide +kernel
theorem dL_at_24 : decode cL_at 24 = .ok (.ireturn, 1) := by decide +kernel
set_option maxRecDepth 20000 in
theorem ggL_multiplicity_X6_multiplicity : GoodIn wsL_multiplicity wsX6_multiplicity := goodIn_ca (goodIn_r _ [6, 7, 8, 9, 10, 11, 12, 13, 14, 15, 5, 16, 17, 18, 19, 20, 21, 22, 23, 24, 25, 26, 27, 28, 29, 30, 31, 32, 33, 34, 35, 36, 37, 38, 39, 40, 41, 42, 43, 44, 45, 46, 47, 48, 49, 50, 51, 52, 53, 54, 55, 56, 57, 58, 59, 60, 61, 62, 63, 64] (by decide +kernel) (by decide +kernel)) (goodIn_sub (fun _ h => List.mem_cons_of_mem _ (List.mem_append_right _ h)) (by decide +kernel))
set_option maxRecDepth 20000 in
theorem gL_multiplicity_X6_multiplicity : GoodIn wsL_multiplicity (wsV RL 30 RX6 yX6_multiplicity wsX6_multiplicity) := goodIn_app (goodIn_of _ (by decide +kernel)) ggL_multiplicity_X6_multiplicity
theorem dL_multiplicity_0 : decode cL_multiplicity 0 = .ok (.aload_n 3, 1) := by decide +kernel
theorem dL_multiplicity_1 : decode cL_multiplicity 1 = .ok (.iconst 0, 1) := by decide +kernel
theorem dL_multiplicity_2 : decode cL_multiplicity 2 = .ok (.aload_n 0, 1) := by decide +kernel
theorem dL_multiplicity_3 : decode cL_multiplicity 3 = .ok (.iload_n 1, 1) := by decide +kernel
theorem dL_multiplicity_4 : decode cL_multiplicity 4 = .ok (.iload_n 2, 1) := by decide +kernel
theorem dL_multiplicity_5 : decode cL_multiplicity 5 = .ok (.invokevirtual 30, 3) := by decide +kernel
theorem dL_multiplicity_8 : decode cL_multiplicity 8 = .ok (.i2l, 1) := by decide +kernel
theorem dL_multiplicity_9 : decode cL_multiplicity 9 = .ok (.lastore, 1) := by decide +kernel
theorem dL_multiplicity_10 : decode cL_multiplicity 10 = .ok (.goto 7, 3) := by decide +kernel
theorem dL_multiplicity_13 : decode cL_multiplicity 13 = .ok (.astore 4, 2) := by decide +kernel
theorem dL_multiplicity_15 : decode cL_multiplicity 15 = .ok (.iconst 1, 1) := by decide +kernel
theorem dL_multiplicity_16 : decode cL_multiplicity 16 = .ok (.ireturn, 1) := by decide +kernel
theorem dL_multiplicity_17 : decode cL_multiplicity 17 = .ok (.iconst 0, 1) := by decide +kernel
theorem dL_multiplicity_18 : decode cL_multiplicity 18 = .ok (.ireturn, 1) := by decide +kernel
set_option maxRecDepth 20000 in
theorem ggL_generator_X6_generator : GoodIn wsL_generator wsX6_generator := goodIn_ca (goodIn_ca (goodIn_r _ [7, 8, 9, 10, 11, 12, 13, 14, 15, 16, 17, 18, 19, 20, 21, 22, 23, 24, 25, 26, 27, 28, 29, 30, 31, 32, 33, 34, 35, 36, 37, 38, 39, 40, 41, 42, 43, 44, 45, 46, 47, 48, 49, 50, 51, 52, 53, 54, 55, 56, 57, 58, 59, 60, 61, 62, 63, 64, 65, 66, 67, 68, 69, 70, 71, 72, 73, 74, 75, 6, 76, 77, 78, 79, 80, 81, 82, 83, 84, 85, 86, 87, 88, 89, 90, 91, 92, 93, 94, 95, 96, 97, 98, 99, 100, 101, 102, 103, 104, 105, 106, 107, 108, 109, 110, 111, 112, 113, 114, 115, 116, 117, 118, 119, 120, 121, 122, 123, 124, 125, 126, 127, 128, 129, 130, 131, 132, 133, 134, 135, 136, 137, 138, 139, 140, 141, 142, 143, 144, 145, 146, 147, 148, 149, 150, 151, 152, 153, 154, 155, 156, 157, 158, 159, 160, 161] (by decide +kernel) (by decide +kernel)) (goodIn_sub (fun _ h => List.mem_cons_of_mem _ (List.mem_append_left _ (List.mem_append_right _ h))) (by decide +kernel))) (goodIn_sub (fun _ h => List.mem_cons_of_mem _ (List.mem_append_right _ h)) (by decide +kernel))
set_option maxRecDepth 20000 in
theorem gL_generator_X6_generator : GoodIn wsL_generator (wsV RL 33 RX6 yX6_generator wsX6_generator) := goodIn_app (goodIn_of _ (by decide +kernel)) ggL_generator_X6_generator
theorem dL_generator_0 : decode cL_generator 0 = .ok (.aload 5, 2) := by decide +kernel
theorem dL_generator_2 : decode cL_generator 2 = .ok (.iconst 0, 1) := by decide +kernel
theorem dL_generator_3 : decode cL_generator 3 = .ok (.aload_n 0, 1) := by decide +kernel
theorem dL_generator_4 : decode cL_generator 4 = .ok (.iload_n 1, 1) := by decide +kernel
theorem dL_generator_5 : decode cL_generator 5 = .ok (.iload_n 2, 1) := by decide +kernel
theorem dL_generator_6 : decode cL_generator 6 = .ok (.iload_n 3, 1) := by decide +kernel
theorem dL_generator_7 : decode cL_generator 7 = .ok (.iload 4, 2) := by decide +kernel
theorem dL_generator_9 : decode cL_generator 9 = .ok (.invokevirtual 33, 3) := by decide +kernel
theorem dL_generator_12 : decode cL_generator 12 = .ok (.i2l, 1) := by decide +kernel
theorem dL_generator_13 : decode cL_generator 13 = .ok (.lastore, 1) := by decide +kernel
theorem dL_generator_14 : decode cL_generator 14 = .ok (.goto 11, 3) := by decide +kernel
theorem dL_generator_17 : decode cL_generator 17 = .ok (.astore 6, 2) := by decide +kernel
theorem dL_generator_19 : decode cL_generator 19 = .ok (.iconst 1, 1) := by decide +kernel
theorem dL_generator_20 : decode cL_generator 20 = .ok (.ireturn, 1) := by decide +kernel
theorem dL_generator_21 : decode cL_generator 21 = .ok (.astore 6, 2) := by decide +kernel
theorem dL_generator_23 : decode cL_generator 23 = .ok (.iconst 2, 1) := by decide +kernel
theorem dL_generator_24 : decode cL_generator 24 = .ok (.ireturn, 1) := by decide +kernel
theorem dL_generator_25 : decode cL_generator 25 = .ok (.iconst 0, 1) := by decide +kernel
theorem dL_generator_26 : decode cL_generator 26 = .ok (.ireturn, 1) := by decide +kernel
set_option maxRecDepth 20000 in
theorem ggL_changed_X6_changed : GoodIn wsL_changed wsX6_changed := goodIn_ca (goodIn_r _ [6, 7, 8, 9, 10, 11, 12, 13, 14, 15, 5, 16, 17, 18, 19, 20, 21, 22, 23, 24, 25, 26, 27, 28, 29, 30, 31, 32, 33, 34, 35, 36, 37, 38, 39, 40, 41, 42, 43, 44, 45, 46, 47, 48, 49, 50, 51, 52, 53, 54, 55, 56, 57, 58] (by decide +kernel) (by decide +kernel)) (goodIn_sub (fun _ h => List.mem_cons_of_mem _ (List.mem_append_right _ h)) (by decide +kernel))
set_option maxRecDepth 20000 in
theorem gL_changed_X6_changed : GoodIn wsL_changed (wsV RL 37 RX6 yX6_changed wsX6_changed) := goodIn_app (goodIn_of _ (by decide +kernel)) ggL_changed_X6_changed
theorem dL_changed_0 : decode cL_changed 0 = .ok (.aload_n 3, 1) := by decide +kernel
theorem dL_changed_1 : decode cL_changed 1 = .ok (.iconst 0, 1) := by decide +kernel
theorem dL_changed_2 : decode cL_changed 2 = .ok (.aload_n 0, 1) := by decide +kernel
theorem dL_changed_3 : decode cL_changed 3 = .ok (.iload_n 1, 1) := by decide +kernel
theorem dL_changed_4 : decode cL_changed 4 = .ok (.iload_n 2, 1) := by decide +kernel
theorem dL_changed_5 : decode cL_changed 5 = .ok (.invokevirtual 37, 3) := by decide +kernel
theorem dL_changed_8 : decode cL_changed 8 = .ok (.i2l, 1) := by decide +kernel
theorem dL_changed_9 : decode cL_changed 9 = .ok (.lastore, 1) := by decide +kernel
theorem dL_changed_10 : decode cL_changed 10 = .ok (.goto 7, 3) := by decide +kernel
theorem dL_changed_13 : decode cL_changed 13 = .ok (.astore 4, 2) := by decide +kernel
theorem dL_changed_15 : decode cL_changed 15 = .ok (.iconst 1, 1) := by decide +kernel
theorem dL_changed_16 : decode cL_changed 16 = .ok (.ireturn, 1) := by decide +kernel
theorem dL_changed_17 : decode cL_changed 17 = .ok (.iconst 0, 1) := by decide +kernel
theorem dL_changed_18 : decode cL_changed 18 = .ok (.ireturn, 1) := by decide +kernel
set_option maxRecDepth 20000 in
theorem ggL_average_X6_average : GoodIn wsL_average wsX6_average := goodIn_ca (goodIn_r _ [6, 7, 8, 9, 10, 11, 12, 13, 14, 15, 16, 5, 17, 18, 19, 20, 21, 22, 23, 24, 25, 26, 27, 28, 29, 30, 31, 32, 33, 34, 35, 36, 37, 38, 39, 40, 41, 42, 43, 44, 45, 46, 47, 48, 49, 50, 51, 52, 53, 54, 55, 56, 57, 58, 59, 60, 61, 62, 63, 64, 65, 66, 67, 68, 69, 70, 71, 72, 73, 74, 75, 76, 77, 78, 79, 80, 81, 82, 83, 84, 85, 86, 87, 88, 89, 90, 91, 92, 93, 94, 95, 96, 97, 98, 99, 100, 101, 102, 103, 104, 105, 106, 107, 108, 109, 110, 111, 112, 113, 114, 115, 116, 117, 118, 119, 120, 121, 122, 123, 124, 125, 126, 127, 128, 129, 130, 131, 132, 133] (by decide +kernel) (by decide +kernel)) (goodIn_sub (fun _ h => List.mem_cons_of_mem _ (List.mem_append_right _ h)) (by decide +kernel))
set_option maxRecDepth 20000 in
theorem gL_average_X6_average : GoodIn wsL_average (wsV RL 40 RX6 yX6_average wsX6_average) := goodIn_app (goodIn_of _ (by decide +kernel)) ggL_average_X6_average
theorem dL_average_0 : decode cL_average 0 = .ok (.aload_n 2, 1) := by decide +kernel
theorem dL_average_1 : decode cL_average 1 = .ok (.iconst 0, 1) := by decide +kernel
theorem dL_average_2 : decode cL_average 2 = .ok (.aload_n 0, 1) := by decide +kernel
theorem dL_average_3 : decode cL_average 3 = .ok (.iload_n 1, 1) := by decide +kernel
theorem dL_average_4 : decode cL_average 4 = .ok (.invokevirtual 40, 3) := by decide +kernel
theorem dL_average_7 : decode cL_average 7 = .ok (.i2l, 1) := by decide +kernel
theorem dL_average_8 : decode cL_average 8 = .ok (.lastore, 1) := by decide +kernel
theorem dL_average_9 : decode cL_average 9 = .ok (.goto 6, 3) := by decide +kernel
theorem dL_average_12 : decode cL_average 12 = .ok (.astore_n 3, 1) := by decide +kernel
theorem dL_average_13 : decode cL_average 13 = .ok (.iconst 1, 1) := by decide +kernel
theorem dL_average_14 : decode cL_average 14 = .ok (.ireturn, 1) := by decide +kernel
theorem dL_average_15 : decode cL_average 15 = .ok (.iconst 0, 1) := by decide +kernel
theorem dL_average_16 : decode cL_average 16 = .ok (.ireturn, 1) := by decide +kernel
set_option maxRecDepth 20000 in
theorem ggL_dimension_X6_dimension : GoodIn wsL_dimension wsX6_dimension := goodIn_ca (goodIn_r _ [6, 7, 8, 9, 10, 11, 12, 5, 13, 14, 15, 16, 17, 18, 19, 20, 21, 22, 23, 24, 25, 26, 27, 28, 29, 30, 31, 32, 33, 34, 35, 36, 37, 38, 39, 40, 41, 42, 43, 44, 45, 46, 47, 48, 49, 50, 51, 52, 53, 54, 55, 56, 57, 58, 59, 60, 61, 62, 63, 64, 65, 66, 67, 68, 69, 70, 71, 72, 73, 74, 75, 76, 77, 78, 79, 80, 81, 82, 83, 84, 85, 86, 87, 88, 89, 90, 91, 92, 93, 94, 95, 96, 97, 98, 99, 100, 101, 102, 103, 104, 105, 106, 107, 108, 109, 110, 111, 112, 113, 114, 115, 116, 117, 118, 119, 120, 121, 122, 123, 124, 125, 126, 127, 128, 129, 130, 131, 132, 133, 134, 135, 136, 137, 138, 139, 140, 141, 142, 143, 144, 145] (by decide +kernel) (by decide +kernel)) (goodIn_sub (fun _ h => List.mem_cons_of_mem _ (List.mem_append_right _ h)) (by decide +kernel))
set_option maxRecDepth 20000 in
theorem gL_dimension_X6_dimension : GoodIn wsL_dimension (wsV RL 43 RX6 yX6_dimension wsX6_dimension) := goodIn_app (goodIn_of _ (by decide +kernel)) ggL_dimension_X6_dimension
theorem dL_dimension_0 : decode cL_dimension 0 = .ok (.aload_n 2, 1) := by decide +kernel
theorem dL_dimension_1 : decode cL_dimension 1 = .ok (.iconst 0, 1) := by decide +kernel
theorem dL_dimension_2 : decode cL_dimension 2 = .ok (.aload_n 0, 1) := by decide +kernel
theorem dL_dimension_3 : decode cL_dimension 3 = .ok (.iload_n 1, 1) := by decide +kernel
theorem dL_dimension_4 : decode cL_dimension 4 = .ok (.invokevirtual 43, 3) := by decide +kernel
theorem dL_dimension_7 : decode cL_dimension 7 = .ok (.i2l, 1) := by decide +kernel
theorem dL_dimension_8 : decode cL_dimension 8 = .ok (.lastore, 1) := by decide +kernel
theorem dL_dimension_9 : decode cL_dimension 9 = .ok (.goto 6, 3) := by decide +kernel
theorem dL_dimension_12 : decode cL_dimension 12 = .ok (.astore_n 3, 1) := by decide +kernel
theorem dL_dimension_13 : decode cL_dimension 13 = .ok (.iconst 1, 1) := by decide +kernel
theorem dL_dimension_14 : decode cL_dimension 14 = .ok (.ireturn, 1) := by decide +kernel
theorem dL_dimension_15 : decode cL_dimension 15 = .ok (.iconst 0, 1) := by decide +kernel
theorem dL_dimension_16 : decode cL_dimension 16 = .ok (.ireturn, 1) := by decide +kernel
set_option maxRecDepth 20000 in
theorem ggL_dimensionAnew_X6_dimensionAnew : GoodIn wsL_dimensionAnew wsX6_dimensionAnew := goodIn_ca (goodIn_r _ [6, 7, 8, 9, 10, 5, 11, 12, 13, 14, 15, 16, 17, 18, 19, 20, 21, 22, 23, 24, 25, 26, 27, 28, 29, 30, 31, 32, 33, 34, 35, 36, 37, 38, 39, 40, 41, 42, 43, 44, 45, 46, 47, 48, 49, 50, 51, 52, 53, 54, 55, 56, 57, 58, 59, 60, 61, 62, 63, 64, 65, 66, 67, 68, 69, 70, 71, 72] (by decide +kernel) (by decide +kernel)) (goodIn_sub (fun _ h => List.mem_cons_of_mem _ (List.mem_append_right _ h)) (by decide +kernel))
set_option maxRecDepth 20000 in
theorem gL_dimensionAnew_X6_dimensionAnew : GoodIn wsL_dimensionAnew (wsV RL 46 RX6 yX6_dimensionAnew wsX6_dimensionAnew) := goodIn_app (goodIn_of _ (by decide +kernel)) ggL_dimensionAnew_X6_dimensionAnew
theorem dL_dimensionAnew_0 : decode cL_dimensionAnew 0 = .ok (.aload_n 2, 1) := by decide +kernel
theorem dL_dimensionAnew_1 : decode cL_dimensionAnew 1 = .ok (.iconst 0, 1) := by decide +kernel
theorem dL_dimensionAnew_2 : decode cL_dimensionAnew 2 = .ok (.aload_n 0, 1) := by decide +kernel
theorem dL_dimensionAnew_3 : decode cL_dimensionAnew 3 = .ok (.iload_n 1, 1) := by decide +kernel
theorem dL_dimensionAnew_4 : decode cL_dimensionAnew 4 = .ok (.invokevirtual 46, 3) := by decide +kernel
theorem dL_dimensionAnew_7 : decode cL_dimensionAnew 7 = .ok (.i2l, 1) := by decide +kernel
theorem dL_dimensionAnew_8 : decode cL_dimensionAnew 8 = .ok (.lastore, 1) := by decide +kernel
theorem dL_dimensionAnew_9 : decode cL_dimensionAnew 9 = .ok (.goto 6, 3) := by decide +kernel
theorem dL_dimensionAnew_12 : decode cL_dimensionAnew 12 = .ok (.astore_n 3, 1) := by decide +kernel
theorem dL_dimensionAnew_13 : decode cL_dimensionAnew 13 = .ok (.iconst 1, 1) := by decide +kernel
theorem dL_dimensionAnew_14 : decode cL_dimensionAnew 14 = .ok (.ireturn, 1) := by decide +kernel
theorem dL_dimensionAnew_15 : decode cL_dimensionAnew 15 = .ok (.iconst 0, 1) := by decide +kernel
theorem dL_dimensionAnew_16 : decode cL_dimensionAnew 16 = .ok (.ireturn, 1) := by decide +kernel
set_option maxRecDepth 20000 in
theorem ggL_transvectant_X6_transvectant : GoodIn wsL_transvectant wsX6_transvectant := goodIn_ca (goodIn_ca (goodIn_r _ [7, 8, 9, 10, 11, 12, 13, 14, 15, 16, 17, 6, 18, 19, 20, 21, 22, 23, 24, 25, 26, 27, 28, 29, 30, 31, 32, 33, 34, 35, 36, 37, 38, 39, 40, 41, 42, 43, 44, 45, 46, 47, 48, 49, 50, 51, 52, 53, 54, 55, 56, 57, 58, 59, 60, 61, 62, 63, 64, 65, 66, 67, 68, 69, 70, 71, 72, 73, 74, 75, 76, 77, 78, 79, 80, 81, 82, 83, 84, 85, 86, 87, 88, 89, 90] (by decide +kernel) (by decide +kernel)) (goodIn_sub (fun _ h => List.mem_cons_of_mem _ (List.mem_append_left _ (List.mem_append_right _ h))) (by decide +kernel))) (goodIn_sub (fun _ h => List.mem_cons_of_mem _ (List.mem_append_right _ h)) (by decide +kernel))
set_option maxRecDepth 20000 in
theorem gL_transvectant_X6_transvectant : GoodIn wsL_transvectant (wsV RL 49 RX6 yX6_transvectant wsX6_transvectant) := goodIn_app (goodIn_of _ (by decide +kernel)) ggL_transvectant_X6_transvectant
theorem dL_transvectant_0 : decode cL_transvectant 0 = .ok (.aload 4, 2) := by decide +kernel
theorem dL_transvectant_2 : decode cL_transvectant 2 = .ok (.iconst 0, 1) := by decide +kernel
theorem dL_transvectant_3 : decode cL_transvectant 3 = .ok (.aload_n 0, 1) := by decide +kernel
theorem dL_transvectant_4 : decode cL_transvectant 4 = .ok (.iload_n 1, 1) := by decide +kernel
theorem dL_transvectant_5 : decode cL_transvectant 5 = .ok (.iload_n 2, 1) := by decide +kernel
theorem dL_transvectant_6 : decode cL_transvectant 6 = .ok (.iload_n 3, 1) := by decide +kernel
theorem dL_transvectant_7 : decode cL_transvectant 7 = .ok (.invokevirtual 49, 3) := by decide +kernel
theorem dL_transvectant_10 : decode cL_transvectant 10 = .ok (.i2l, 1) := by decide +kernel
theorem dL_transvectant_11 : decode cL_transvectant 11 = .ok (.lastore, 1) := by decide +kernel
theorem dL_transvectant_12 : decode cL_transvectant 12 = .ok (.goto 11, 3) := by decide +kernel
theorem dL_transvectant_15 : decode cL_transvectant 15 = .ok (.astore 5, 2) := by decide +kernel
theorem dL_transvectant_17 : decode cL_transvectant 17 = .ok (.iconst 1, 1) := by decide +kernel
theorem dL_transvectant_18 : decode cL_transvectant 18 = .ok (.ireturn, 1) := by decide +kernel
theorem dL_transvectant_19 : decode cL_transvectant 19 = .ok (.astore 5, 2) := by decide +kernel
theorem dL_transvectant_21 : decode cL_transvectant 21 = .ok (.iconst 2, 1) := by decide +kernel
theorem dL_transvectant_22 : decode cL_transvectant 22 = .ok (.ireturn, 1) := by decide +kernel
theorem dL_transvectant_23 : decode cL_transvectant 23 = .ok (.iconst 0, 1) := by decide +kernel
theorem dL_transvectant_24 : decode cL_transvectant 24 = .ok (.ireturn, 1) := by decide +kernel
set_option maxRecDepth 20000 in
theorem ggL_value_X6_value : GoodIn wsL_value wsX6_value := goodIn_ca (goodIn_ca (goodIn_r _ [7, 8, 9, 10, 11, 12, 13, 14, 6, 15, 16, 17, 18, 19, 20, 21, 22, 23, 24, 25, 26, 27, 28, 29, 30, 31, 32, 33, 34, 35, 36, 37, 38, 39, 40, 41, 42, 43, 44, 45, 46, 47, 48, 49, 50, 51, 52, 53, 54, 55, 56, 57, 58, 59, 60] (by decide +kernel) (by decide +kernel)) (goodIn_sub (fun _ h => List.mem_cons_of_mem _ (List.mem_append_left _ (List.mem_append_right _ h))) (by decide +kernel))) (goodIn_sub (fun _ h => List.mem_cons_of_mem _ (List.mem_append_right _ h)) (by decide +kernel))
set_option maxRecDepth 20000 in
theorem gL_value_X6_value : GoodIn wsL_value (wsV RL 52 RX6 yX6_value wsX6_value) := goodIn_app (goodIn_of _ (by decide +kernel)) ggL_value_X6_value
theorem dL_value_0 : decode cL_value 0 = .ok (.aload_n 3, 1) := by decide +kernel
theorem dL_value_1 : decode cL_value 1 = .ok (.iconst 0, 1) := by decide +kernel
theorem dL_value_2 : decode cL_value 2 = .ok (.aload_n 0, 1) := by decide +kernel
theorem dL_value_3 : decode cL_value 3 = .ok (.iload_n 1, 1) := by decide +kernel
theorem dL_value_4 : decode cL_value 4 = .ok (.iload_n 2, 1) := by decide +kernel
theorem dL_value_5 : decode cL_value 5 = .ok (.invokevirtual 52, 3) := by decide +kernel
theorem dL_value_8 : decode cL_value 8 = .ok (.i2l, 1) := by decide +kernel
theorem dL_value_9 : decode cL_value 9 = .ok (.lastore, 1) := by decide +kernel
theorem dL_value_10 : decode cL_value 10 = .ok (.goto 11, 3) := by decide +kernel
theorem dL_value_13 : decode cL_value 13 = .ok (.astore 4, 2) := by decide +kernel
theorem dL_value_15 : decode cL_value 15 = .ok (.iconst 1, 1) := by decide +kernel
theorem dL_value_16 : decode cL_value 16 = .ok (.ireturn, 1) := by decide +kernel
theorem dL_value_17 : decode cL_value 17 = .ok (.astore 4, 2) := by decide +kernel
theorem dL_value_19 : decode cL_value 19 = .ok (.iconst 2, 1) := by decide +kernel
theorem dL_value_20 : decode cL_value 20 = .ok (.ireturn, 1) := by decide +kernel
theorem dL_value_21 : decode cL_value 21 = .ok (.iconst 0, 1) := by decide +kernel
theorem dL_value_22 : decode cL_value 22 = .ok (.ireturn, 1) := by decide +kernel
set_option maxRecDepth 20000 in
theorem ggL_way_X6_way : GoodIn wsL_way wsX6_way := goodIn_ca (goodIn_ca (goodIn_r _ [7, 8, 9, 10, 11, 12, 13, 6, 14, 15, 16, 17, 18, 19, 20, 21, 22, 23, 24, 25, 26, 27, 28, 29, 30, 31, 32, 33, 34, 35, 36, 37, 38, 39, 40, 41, 42, 43, 44, 45, 46, 47, 48, 49, 50, 51, 52, 53, 54, 55, 56, 57, 58, 59, 60, 61, 62, 63, 64, 65, 66, 67, 68, 69, 70, 71, 72, 73, 74, 75, 76, 77, 78, 79, 80, 81, 82, 83, 84, 85, 86, 87, 88, 89, 90, 91, 92, 93, 94, 95, 96, 97, 98, 99, 100, 101, 102, 103, 104, 105, 106, 107, 108, 109, 110] (by decide +kernel) (by decide +kernel)) (goodIn_sub (fun _ h => List.mem_cons_of_mem _ (List.mem_append_left _ (List.mem_append_right _ h))) (by decide +kernel))) (goodIn_sub (fun _ h => List.mem_cons_of_mem _ (List.mem_append_right _ h)) (by decide +kernel))
set_option maxRecDepth 20000 in
theorem gL_way_X6_way : GoodIn wsL_way (wsV RL 55 RX6 yX6_way wsX6_way) := goodIn_app (goodIn_of _ (by decide +kernel)) ggL_way_X6_way
theorem dL_way_0 : decode cL_way 0 = .ok (.aload_n 3, 1) := by decide +kernel
theorem dL_way_1 : decode cL_way 1 = .ok (.iconst 0, 1) := by decide +kernel
theorem dL_way_2 : decode cL_way 2 = .ok (.aload_n 0, 1) := by decide +kernel
theorem dL_way_3 : decode cL_way 3 = .ok (.iload_n 1, 1) := by decide +kernel
theorem dL_way_4 : decode cL_way 4 = .ok (.iload_n 2, 1) := by decide +kernel
theorem dL_way_5 : decode cL_way 5 = .ok (.invokevirtual 55, 3) := by decide +kernel
theorem dL_way_8 : decode cL_way 8 = .ok (.i2l, 1) := by decide +kernel
theorem dL_way_9 : decode cL_way 9 = .ok (.lastore, 1) := by decide +kernel
theorem dL_way_10 : decode cL_way 10 = .ok (.goto 11, 3) := by decide +kernel
theorem dL_way_13 : decode cL_way 13 = .ok (.astore 4, 2) := by decide +kernel
theorem dL_way_15 : decode cL_way 15 = .ok (.iconst 1, 1) := by decide +kernel
theorem dL_way_16 : decode cL_way 16 = .ok (.ireturn, 1) := by decide +kernel
theorem dL_way_17 : decode cL_way 17 = .ok (.astore 4, 2) := by decide +kernel
theorem dL_way_19 : decode cL_way 19 = .ok (.iconst 2, 1) := by decide +kernel
theorem dL_way_20 : decode cL_way 20 = .ok (.ireturn, 1) := by decide +kernel
theorem dL_way_21 : decode cL_way 21 = .ok (.iconst 0, 1) := by decide +kernel
theorem dL_way_22 : decode cL_way 22 = .ok (.ireturn, 1) := by decide +kernel
set_option maxRecDepth 20000 in
theorem ggL_step_X6_step : GoodIn wsL_step wsX6_step := goodIn_ca (goodIn_ca (goodIn_r _ [7, 8, 9, 10, 11, 12, 13, 14, 15, 6, 16, 17, 18, 19, 20, 21, 22, 23, 24, 25, 26, 27, 28, 29, 30, 31, 32, 33, 34, 35, 36, 37, 38, 39, 40, 41, 42, 43, 44, 45, 46, 47, 48, 49, 50, 51, 52, 53, 54, 55, 56, 57, 58, 59, 60, 61, 62, 63, 64, 65, 66, 67, 68, 69, 70, 71, 72, 73, 74, 75, 76, 77, 78, 79, 80, 81, 82, 83, 84, 85, 86, 87, 88, 89, 90, 91, 92, 93, 94, 95, 96, 97, 98, 99, 100, 101, 102, 103, 104, 105, 106, 107, 108, 109, 110, 111, 112, 113, 114] (by decide +kernel) (by decide +kernel)) (goodIn_sub (fun _ h => List.mem_cons_of_mem _ (List.mem_append_left _ (List.mem_append_right _ h))) (by decide +kernel))) (goodIn_sub (fun _ h => List.mem_cons_of_mem _ (List.mem_append_right _ h)) (by decide +kernel))
set_option maxRecDepth 20000 in
theorem gL_step_X6_step : GoodIn wsL_step (wsV RL 58 RX6 yX6_step wsX6_step) := goodIn_app (goodIn_of _ (by decide +kernel)) ggL_step_X6_step
theorem dL_step_0 : decode cL_step 0 = .ok (.aload 4, 2) := by decide +kernel
theorem dL_step_2 : decode cL_step 2 = .ok (.iconst 0, 1) := by decide +kernel
theorem dL_step_3 : decode cL_step 3 = .ok (.aload_n 0, 1) := by decide +kernel
theorem dL_step_4 : decode cL_step 4 = .ok (.iload_n 1, 1) := by decide +kernel
theorem dL_step_5 : decode cL_step 5 = .ok (.iload_n 2, 1) := by decide +kernel
theorem dL_step_6 : decode cL_step 6 = .ok (.iload_n 3, 1) := by decide +kernel
theorem dL_step_7 : decode cL_step 7 = .ok (.invokevirtual 58, 3) := by decide +kernel
theorem dL_step_10 : decode cL_step 10 = .ok (.i2l, 1) := by decide +kernel
theorem dL_step_11 : decode cL_step 11 = .ok (.lastore, 1) := by decide +kernel
theorem dL_step_12 : decode cL_step 12 = .ok (.goto 11, 3) := by decide +kernel
theorem dL_step_15 : decode cL_step 15 = .ok (.astore 5, 2) := by decide +kernel
theorem dL_step_17 : decode cL_step 17 = .ok (.iconst 1, 1) := by decide +kernel
theorem dL_step_18 : decode cL_step 18 = .ok (.ireturn, 1) := by decide +kernel
theorem dL_step_19 : decode cL_step 19 = .ok (.astore 5, 2) := by decide +kernel
theorem dL_step_21 : decode cL_step 21 = .ok (.iconst 2, 1) := by decide +kernel
theorem dL_step_22 : decode cL_step 22 = .ok (.ireturn, 1) := by decide +kernel
theorem dL_step_23 : decode cL_step 23 = .ok (.iconst 0, 1) := by decide +kernel
theorem dL_step_24 : decode cL_step 24 = .ok (.ireturn, 1) := by decide +kernel
set_option maxRecDepth 20000 in
theorem ggL_orbits_X6_orbits : GoodIn wsL_orbits wsX6_orbits := goodIn_ca (goodIn_r _ [6, 7, 8, 9, 10, 5, 11, 12, 13, 14, 15, 16, 17, 18, 19, 20, 21, 22, 23, 24, 25, 26, 27, 28, 29, 30, 31, 32, 33, 34, 35, 36, 37, 38, 39, 40, 41, 42, 43, 44, 45, 46, 47, 48, 49, 50, 51, 52, 53, 54, 55, 56, 57, 58, 59, 60, 61, 62, 63, 64, 65, 66, 67, 68, 69, 70, 71, 72, 73, 74, 75, 76, 77, 78, 79, 80, 81, 82, 83, 84, 85, 86, 87, 88, 89, 90, 91, 92, 93, 94, 95, 96, 97, 98, 99, 100, 101, 102] (by decide +kernel) (by decide +kernel)) (goodIn_sub (fun _ h => List.mem_cons_of_mem _ (List.mem_append_right _ h)) (by decide +kernel))
set_option maxRecDepth 20000 in
theorem gL_orbits_X6_orbits : GoodIn wsL_orbits (wsV RL 61 RX6 yX6_orbits wsX6_orbits) := goodIn_app (goodIn_of _ (by decide +kernel)) ggL_orbits_X6_orbits
theorem dL_orbits_0 : decode cL_orbits 0 = .ok (.aload_n 2, 1) := by decide +kernel
theorem dL_orbits_1 : decode cL_orbits 1 = .ok (.iconst 0, 1) := by decide +kernel
theorem dL_orbits_2 : decode cL_orbits 2 = .ok (.aload_n 0, 1) := by decide +kernel
theorem dL_orbits_3 : decode cL_orbits 3 = .ok (.iload_n 1, 1) := by decide +kernel
theorem dL_orbits_4 : decode cL_orbits 4 = .ok (.invokevirtual 61, 3) := by decide +kernel
theorem dL_orbits_7 : decode cL_orbits 7 = .ok (.i2l, 1) := by decide +kernel
theorem dL_orbits_8 : decode cL_orbits 8 = .ok (.lastore, 1) := by decide +kernel
theorem dL_orbits_9 : decode cL_orbits 9 = .ok (.goto 6, 3) := by decide +kernel
theorem dL_orbits_12 : decode cL_orbits 12 = .ok (.astore_n 3, 1) := by decide +kernel
theorem dL_orbits_13 : decode cL_orbits 13 = .ok (.iconst 1, 1) := by decide +kernel
theorem dL_orbits_14 : decode cL_orbits 14 = .ok (.ireturn, 1) := by decide +kernel
theorem dL_orbits_15 : decode cL_orbits 15 = .ok (.iconst 0, 1) := by decide +kernel
theorem dL_orbits_16 : decode cL_orbits 16 = .ok (.ireturn, 1) := by decide +kernel
set_option maxRecDepth 20000 in
theorem ggL_orbitsAnew_X6_orbitsAnew : GoodIn wsL_orbitsAnew wsX6_orbitsAnew := goodIn_ca (goodIn_r _ [6, 7, 8, 9, 10, 11, 5, 12, 13, 14, 15, 16, 17, 18, 19, 20, 21, 22, 23, 24, 25, 26, 27, 28, 29, 30, 31, 32, 33, 34, 35, 36, 37, 38, 39, 40, 41, 42, 43, 44, 45, 46, 47, 48, 49, 50, 51, 52, 53, 54, 55, 56, 57, 58, 59, 60, 61, 62, 63, 64, 65, 66, 67, 68, 69, 70, 71, 72, 73, 74, 75, 76, 77, 78, 79, 80, 81, 82, 83, 84, 85, 86, 87, 88, 89, 90, 91, 92, 93, 94, 95, 96, 97, 98, 99, 100, 101, 102, 103, 104, 105, 106, 107, 108, 109, 110, 111, 112, 113, 114, 115, 116, 117, 118, 119, 120, 121, 122, 123, 124, 125, 126, 127, 128, 129, 130, 131, 132, 133, 134, 135, 136, 137, 138, 139, 140, 141] (by decide +kernel) (by decide +kernel)) (goodIn_sub (fun _ h => List.mem_cons_of_mem _ (List.mem_append_right _ h)) (by decide +kernel))
set_option maxRecDepth 20000 in
theorem gL_orbitsAnew_X6_orbitsAnew : GoodIn wsL_orbitsAnew (wsV RL 64 RX6 yX6_orbitsAnew wsX6_orbitsAnew) := goodIn_app (goodIn_of _ (by decide +kernel)) ggL_orbitsAnew_X6_orbitsAnew
theorem dL_orbitsAnew_0 : decode cL_orbitsAnew 0 = .ok (.aload_n 2, 1) := by decide +kernel
theorem dL_orbitsAnew_1 : decode cL_orbitsAnew 1 = .ok (.iconst 0, 1) := by decide +kernel
theorem dL_orbitsAnew_2 : decode cL_orbitsAnew 2 = .ok (.aload_n 0, 1) := by decide +kernel
theorem dL_orbitsAnew_3 : decode cL_orbitsAnew 3 = .ok (.iload_n 1, 1) := by decide +kernel
theorem dL_orbitsAnew_4 : decode cL_orbitsAnew 4 = .ok (.invokevirtual 64, 3) := by decide +kernel
theorem dL_orbitsAnew_7 : decode cL_orbitsAnew 7 = .ok (.i2l, 1) := by decide +kernel
theorem dL_orbitsAnew_8 : decode cL_orbitsAnew 8 = .ok (.lastore, 1) := by decide +kernel
theorem dL_orbitsAnew_9 : decode cL_orbitsAnew 9 = .ok (.goto 6, 3) := by decide +kernel
theorem dL_orbitsAnew_12 : decode cL_orbitsAnew 12 = .ok (.astore_n 3, 1) := by decide +kernel
theorem dL_orbitsAnew_13 : decode cL_orbitsAnew 13 = .ok (.iconst 1, 1) := by decide +kernel
theorem dL_orbitsAnew_14 : decode cL_orbitsAnew 14 = .ok (.ireturn, 1) := by decide +kernel
theorem dL_orbitsAnew_15 : decode cL_orbitsAnew 15 = .ok (.iconst 0, 1) := by decide +kernel
theorem dL_orbitsAnew_16 : decode cL_orbitsAnew 16 = .ok (.ireturn, 1) := by decide +kernel
