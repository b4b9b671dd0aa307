set_option maxRecDepth 20000 in
theorem ggX6_init_X2_init : GoodIn wsX6_init wsX2_init := goodIn_r _ [34, 35, 2, 3, 36, 125] (by decide +kernel) (by decide +kernel)
set_option maxRecDepth 20000 in
theorem gX6_init_X2_init : GoodIn wsX6_init (wsX2_init) := ggX6_init_X2_init
set_option maxRecDepth 20000 in
theorem ggX6_init_X0_init : GoodIn wsX6_init wsX0_init := goodIn_r _ [39, 40, 2, 3, 24, 41, 42, 138, 139, 140] (by decide +kernel) (by decide +kernel)
set_option maxRecDepth 20000 in
theorem gX6_init_X0_init : GoodIn wsX6_init (wsX0_init) := ggX6_init_X0_init
set_option maxRecDepth 20000 in
theorem ggX6_init_X1_init : GoodIn wsX6_init wsX1_init := goodIn_r _ [45, 46, 2, 3, 24, 47, 48, 141, 142, 143, 144] (by decide +kernel) (by decide +kernel)
set_option maxRecDepth 20000 in
theorem gX6_init_X1_init : GoodIn wsX6_init (wsX1_init) := ggX6_init_X1_init
set_option maxRecDepth 20000 in
theorem ggX6_init_X4_init : GoodIn wsX6_init wsX4_init := goodIn_r _ [51, 52, 2, 3, 53, 54, 24, 55, 56, 57, 58, 59, 60, 18, 61, 62, 63, 64, 65, 66, 67, 68, 69, 70, 6, 71, 36, 72, 73, 74, 75, 76, 77, 78, 79, 80, 81, 82, 83, 84, 85, 86, 87, 88, 89, 90, 91, 92, 93, 94, 95, 96, 97, 98, 99, 100, 101, 102, 103, 104, 105, 106, 107, 108, 109, 110, 111, 112, 113, 114, 145, 146, 147, 148, 149, 150, 125, 158, 159] (by decide +kernel) (by decide +kernel)
set_option maxRecDepth 20000 in
theorem gX6_init_X4_init : GoodIn wsX6_init (wsX4_init) := ggX6_init_X4_init
set_option maxRecDepth 20000 in
theorem ggX6_init_X5_init : GoodIn wsX6_init wsX5_init := goodIn_r _ [117, 118, 2, 3, 24, 119, 120, 121, 122, 123, 124, 151, 152, 153, 154, 155, 156, 157] (by decide +kernel) (by decide +kernel)
set_option maxRecDepth 20000 in
theorem gX6_init_X5_init : GoodIn wsX6_init (wsX5_init) := ggX6_init_X5_init
theorem dX6_init_0 : decode cX6_init 0 = .ok (.aload_n 0, 1) := by decide +kernel
theorem dX6_init_1 : decode cX6_init 1 = .ok (.invokespecial 1, 3) := by decide +kernel
theorem dX6_init_4 : decode cX6_init 4 = .ok (.aload_n 0, 1) := by decide +kernel
theorem dX6_init_5 : decode cX6_init 5 = .ok (.new 7, 3) := by decide +kernel
theorem dX6_init_8 : decode cX6_init 8 = .ok (.dup, 1) := by decide +kernel
theorem dX6_init_9 : decode cX6_init 9 = .ok (.iconst 5, 1) := by decide +kernel
theorem dX6_init_10 : decode cX6_init 10 = .ok (.invokespecial 11, 3) := by decide +kernel
theorem dX6_init_13 : decode cX6_init 13 = .ok (.putfield 14, 3) := by decide +kernel
theorem dX6_init_16 : decode cX6_init 16 = .ok (.aload_n 0, 1) := by decide +kernel
theorem dX6_init_17 : decode cX6_init 17 = .ok (.new 18, 3) := by decide +kernel
theorem dX6_init_20 : decode cX6_init 20 = .ok (.dup, 1) := by decide +kernel
theorem dX6_init_21 : decode cX6_init 21 = .ok (.aload_n 0, 1) := by decide +kernel
theorem dX6_init_22 : decode cX6_init 22 = .ok (.getfield 14, 3) := by decide +kernel
theorem dX6_init_25 : decode cX6_init 25 = .ok (.invokespecial 20, 3) := by decide +kernel
theorem dX6_init_28 : decode cX6_init 28 = .ok (.putfield 23, 3) := by decide +kernel
theorem dX6_init_31 : decode cX6_init 31 = .ok (.aload_n 0, 1) := by decide +kernel
theorem dX6_init_32 : decode cX6_init 32 = .ok (.new 27, 3) := by decide +kernel
theorem dX6_init_35 : decode cX6_init 35 = .ok (.dup, 1) := by decide +kernel
theorem dX6_init_36 : decode cX6_init 36 = .ok (.aload_n 0, 1) := by decide +kernel
theorem dX6_init_37 : decode cX6_init 37 = .ok (.getfield 14, 3) := by decide +kernel
theorem dX6_init_40 : decode cX6_init 40 = .ok (.invokespecial 29, 3) := by decide +kernel
theorem dX6_init_43 : decode cX6_init 43 = .ok (.putfield 30, 3) := by decide +kernel
theorem dX6_init_46 : decode cX6_init 46 = .ok (.aload_n 0, 1) := by decide +kernel
theorem dX6_init_47 : decode cX6_init 47 = .ok (.new 34, 3) := by decide +kernel
theorem dX6_init_50 : decode cX6_init 50 = .ok (.dup, 1) := by decide +kernel
theorem dX6_init_51 : decode cX6_init 51 = .ok (.aload_n 0, 1) := by decide +kernel
theorem dX6_init_52 : decode cX6_init 52 = .ok (.getfield 14, 3) := by decide +kernel
theorem dX6_init_55 : decode cX6_init 55 = .ok (.invokespecial 36, 3) := by decide +kernel
theorem dX6_init_58 : decode cX6_init 58 = .ok (.putfield 37, 3) := by decide +kernel
theorem dX6_init_61 : decode cX6_init 61 = .ok (.aload_n 0, 1) := by decide +kernel
theorem dX6_init_62 : decode cX6_init 62 = .ok (.new 41, 3) := by decide +kernel
theorem dX6_init_65 : decode cX6_init 65 = .ok (.dup, 1) := by decide +kernel
theorem dX6_init_66 : decode cX6_init 66 = .ok (.aload_n 0, 1) := by decide +kernel
theorem dX6_init_67 : decode cX6_init 67 = .ok (.getfield 37, 3) := by decide +kernel
theorem dX6_init_70 : decode cX6_init 70 = .ok (.invokespecial 43, 3) := by decide +kernel
theorem dX6_init_73 : decode cX6_init 73 = .ok (.putfield 46, 3) := by decide +kernel
theorem dX6_init_76 : decode cX6_init 76 = .ok (.aload_n 0, 1) := by decide +kernel
theorem dX6_init_77 : decode cX6_init 77 = .ok (.bipush 20, 2) := by decide +kernel
theorem dX6_init_79 : decode cX6_init 79 = .ok (.newarray .int, 2) := by decide +kernel
theorem dX6_init_81 : decode cX6_init 81 = .ok (.putfield 50, 3) := by decide +kernel
theorem dX6_init_84 : decode cX6_init 84 = .ok (.aload_n 0, 1) := by decide +kernel
theorem dX6_init_85 : decode cX6_init 85 = .ok (.bipush 20, 2) := by decide +kernel
theorem dX6_init_87 : decode cX6_init 87 = .ok (.newarray .int, 2) := by decide +kernel
theorem dX6_init_89 : decode cX6_init 89 = .ok (.putfield 54, 3) := by decide +kernel
theorem dX6_init_92 : decode cX6_init 92 = .ok (.aload_n 0, 1) := by decide +kernel
theorem dX6_init_93 : decode cX6_init 93 = .ok (.iconst 5, 1) := by decide +kernel
theorem dX6_init_94 : decode cX6_init 94 = .ok (.newarray .int, 2) := by decide +kernel
theorem dX6_init_96 : decode cX6_init 96 = .ok (.putfield 57, 3) := by decide +kernel
theorem dX6_init_99 : decode cX6_init 99 = .ok (.aload_n 0, 1) := by decide +kernel
theorem dX6_init_100 : decode cX6_init 100 = .ok (.iconst 5, 1) := by decide +kernel
theorem dX6_init_101 : decode cX6_init 101 = .ok (.newarray .int, 2) := by decide +kernel
theorem dX6_init_103 : decode cX6_init 103 = .ok (.putfield 60, 3) := by decide +kernel
theorem dX6_init_106 : decode cX6_init 106 = .ok (.aload_n 0, 1) := by decide +kernel
theorem dX6_init_107 : decode cX6_init 107 = .ok (.iconst 5, 1) := by decide +kernel
theorem dX6_init_108 : decode cX6_init 108 = .ok (.newarray .int, 2) := by decide +kernel
theorem dX6_init_110 : decode cX6_init 110 = .ok (.putfield 63, 3) := by decide +kernel
theorem dX6_init_113 : decode cX6_init 113 = .ok (.aload_n 0, 1) := by decide +kernel
theorem dX6_init_114 : decode cX6_init 114 = .ok (.iconst 5, 1) := by decide +kernel
theorem dX6_init_115 : decode cX6_init 115 = .ok (.newarray .int, 2) := by decide +kernel
theorem dX6_init_117 : decode cX6_init 117 = .ok (.putfield 66, 3) := by decide +kernel
theorem dX6_init_120 : decode cX6_init 120 = .ok (.aload_n 0, 1) := by decide +kernel
theorem dX6_init_121 : decode cX6_init 121 = .ok (.iconst 0, 1) := by decide +kernel
theorem dX6_init_122 : decode cX6_init 122 = .ok (.putfield 69, 3) := by decide +kernel
theorem dX6_init_125 : decode cX6_init 125 = .ok (.return_, 1) := by decide +kernel
set_option maxRecDepth 20000 in
theorem ggX6_prime_X4_forget : GoodIn wsX6_prime wsX4_forget := goodIn_r _ [12, 13, 14, 15, 16, 11, 17, 18, 19, 20, 21, 22, 23, 24, 25, 26, 27, 28, 29, 30, 31, 32, 33, 34, 35, 36, 37, 38, 39, 40, 41, 42, 43, 44, 45, 46, 47, 48, 49, 50, 51, 52, 53, 54, 55, 56, 57, 58, 59, 60, 61, 62, 63, 64, 65, 66, 67, 68, 69, 70, 71, 72, 73, 74, 75, 90, 91, 92, 93, 94, 95, 89, 96, 97] (by decide +kernel) (by decide +kernel)
set_option maxRecDepth 20000 in
theorem gX6_prime_X4_forget : GoodIn wsX6_prime (wsV RX6 83 RX4 yX4_forget wsX4_forget) := goodIn_app (goodIn_of _ (by decide +kernel)) ggX6_prime_X4_forget
set_option maxRecDepth 20000 in
theorem ggX6_prime_J7_fill_53178 : GoodIn wsX6_prime wsJ7_fill_53178 := goodIn_r _ [24] (by decide +kernel) (by decide +kernel)
set_option maxRecDepth 20000 in
theorem gX6_prime_J7_fill_53178 : GoodIn wsX6_prime (va_wsS RX6 86 yJ7_fill_53178 wsJ7_fill_53178) := goodIn_app (goodIn_of _ (by decide +kernel)) ggX6_prime_J7_fill_53178
theorem dX6_prime_0 : decode cX6_prime 0 = .ok (.iload_n 1, 1) := by decide +kernel
theorem dX6_prime_1 : decode cX6_prime 1 = .ok (.iconst 2, 1) := by decide +kernel
theorem dX6_prime_2 : decode cX6_prime 2 = .ok (.if_icmp .eq 23, 3) := by decide +kernel
theorem dX6_prime_5 : decode cX6_prime 5 = .ok (.iload_n 1, 1) := by decide +kernel
theorem dX6_prime_6 : decode cX6_prime 6 = .ok (.iconst 3, 1) := by decide +kernel
theorem dX6_prime_7 : decode cX6_prime 7 = .ok (.if_icmp .eq 18, 3) := by decide +kernel
theorem dX6_prime_10 : decode cX6_prime 10 = .ok (.iload_n 1, 1) := by decide +kernel
theorem dX6_prime_11 : decode cX6_prime 11 = .ok (.iconst 5, 1) := by decide +kernel
theorem dX6_prime_12 : decode cX6_prime 12 = .ok (.if_icmp .eq 13, 3) := by decide +kernel
theorem dX6_prime_15 : decode cX6_prime 15 = .ok (.new 73, 3) := by decide +kernel
theorem dX6_prime_18 : decode cX6_prime 18 = .ok (.dup, 1) := by decide +kernel
theorem dX6_prime_19 : decode cX6_prime 19 = .ok (.ldc 75, 2) := by decide +kernel
theorem dX6_prime_21 : decode cX6_prime 21 = .ok (.invokespecial 77, 3) := by decide +kernel
theorem dX6_prime_24 : decode cX6_prime 24 = .ok (.athrow, 1) := by decide +kernel
theorem dX6_prime_25 : decode cX6_prime 25 = .ok (.aload_n 0, 1) := by decide +kernel
theorem dX6_prime_26 : decode cX6_prime 26 = .ok (.getfield 14, 3) := by decide +kernel
theorem dX6_prime_29 : decode cX6_prime 29 = .ok (.getfield 80, 3) := by decide +kernel
theorem dX6_prime_32 : decode cX6_prime 32 = .ok (.istore_n 2, 1) := by decide +kernel
theorem dX6_prime_33 : decode cX6_prime 33 = .ok (.aload_n 0, 1) := by decide +kernel
theorem dX6_prime_34 : decode cX6_prime 34 = .ok (.getfield 14, 3) := by decide +kernel
theorem dX6_prime_37 : decode cX6_prime 37 = .ok (.iload_n 1, 1) := by decide +kernel
theorem dX6_prime_38 : decode cX6_prime 38 = .ok (.putfield 80, 3) := by decide +kernel
theorem dX6_prime_41 : decode cX6_prime 41 = .ok (.aload_n 0, 1) := by decide +kernel
theorem dX6_prime_42 : decode cX6_prime 42 = .ok (.iconst 0, 1) := by decide +kernel
theorem dX6_prime_43 : decode cX6_prime 43 = .ok (.putfield 69, 3) := by decide +kernel
theorem dX6_prime_46 : decode cX6_prime 46 = .ok (.aload_n 0, 1) := by decide +kernel
theorem dX6_prime_47 : decode cX6_prime 47 = .ok (.getfield 37, 3) := by decide +kernel
theorem dX6_prime_50 : decode cX6_prime 50 = .ok (.invokevirtual 83, 3) := by decide +kernel
theorem dX6_prime_53 : decode cX6_prime 53 = .ok (.aload_n 0, 1) := by decide +kernel
theorem dX6_prime_54 : decode cX6_prime 54 = .ok (.getfield 66, 3) := by decide +kernel
theorem dX6_prime_57 : decode cX6_prime 57 = .ok (.iconst 0, 1) := by decide +kernel
theorem dX6_prime_58 : decode cX6_prime 58 = .ok (.invokestatic 86, 3) := by decide +kernel
theorem dX6_prime_61 : decode cX6_prime 61 = .ok (.iload_n 2, 1) := by decide +kernel
theorem dX6_prime_62 : decode cX6_prime 62 = .ok (.ireturn, 1) := by decide +kernel
set_option maxRecDepth 20000 in
theorem ggX6_form_X6_isDegree : GoodIn wsX6_form wsX6_isDegree := goodIn_r _ [12] (by decide +kernel) (by decide +kernel)
set_option maxRecDepth 20000 in
theorem gX6_form_X6_isDegree : GoodIn wsX6_form (va_wsS RX6 92 yX6_isDegree wsX6_isDegree) := goodIn_app (goodIn_of _ (by decide +kernel)) ggX6_form_X6_isDegree
set_option maxRecDepth 20000 in
theorem ggX6_form_X2_howMany : GoodIn wsX6_form wsX2_howMany := goodIn_r _ [17, 18, 34] (by decide +kernel) (by decide +kernel)
set_option maxRecDepth 20000 in
theorem gX6_form_X2_howMany : GoodIn wsX6_form (wsV RX6 96 RX2 yX2_howMany wsX2_howMany) := goodIn_app (goodIn_of _ (by decide +kernel)) ggX6_form_X2_howMany
set_option maxRecDepth 20000 in
theorem ggX6_form_X6_write : GoodIn wsX6_form wsX6_write := goodIn_r _ [21] (by decide +kernel) (by decide +kernel)
set_option maxRecDepth 20000 in
theorem gX6_form_X6_write : GoodIn wsX6_form (va_wsS RX6 107 yX6_write wsX6_write) := goodIn_app (goodIn_of _ (by decide +kernel)) ggX6_form_X6_write
theorem dX6_form_0 : decode cX6_form 0 = .ok (.iload_n 1, 1) := by decide +kernel
theorem dX6_form_1 : decode cX6_form 1 = .ok (.invokestatic 92, 3) := by decide +kernel
theorem dX6_form_4 : decode cX6_form 4 = .ok (.ifCond .eq 21, 3) := by decide +kernel
theorem dX6_form_7 : decode cX6_form 7 = .ok (.iload_n 2, 1) := by decide +kernel
theorem dX6_form_8 : decode cX6_form 8 = .ok (.ifCond .lt 17, 3) := by decide +kernel
theorem dX6_form_11 : decode cX6_form 11 = .ok (.iload_n 2, 1) := by decide +kernel
theorem dX6_form_12 : decode cX6_form 12 = .ok (.aload_n 0, 1) := by decide +kernel
theorem dX6_form_13 : decode cX6_form 13 = .ok (.getfield 14, 3) := by decide +kernel
theorem dX6_form_16 : decode cX6_form 16 = .ok (.iload_n 1, 1) := by decide +kernel
theorem dX6_form_17 : decode cX6_form 17 = .ok (.iconst 1, 1) := by decide +kernel
theorem dX6_form_18 : decode cX6_form 18 = .ok (.iadd, 1) := by decide +kernel
theorem dX6_form_19 : decode cX6_form 19 = .ok (.invokevirtual 96, 3) := by decide +kernel
theorem dX6_form_22 : decode cX6_form 22 = .ok (.if_icmp .lt 13, 3) := by decide +kernel
theorem dX6_form_25 : decode cX6_form 25 = .ok (.new 73, 3) := by decide +kernel
theorem dX6_form_28 : decode cX6_form 28 = .ok (.dup, 1) := by decide +kernel
theorem dX6_form_29 : decode cX6_form 29 = .ok (.ldc 100, 2) := by decide +kernel
theorem dX6_form_31 : decode cX6_form 31 = .ok (.invokespecial 77, 3) := by decide +kernel
theorem dX6_form_34 : decode cX6_form 34 = .ok (.athrow, 1) := by decide +kernel
theorem dX6_form_35 : decode cX6_form 35 = .ok (.aload_n 0, 1) := by decide +kernel
theorem dX6_form_36 : decode cX6_form 36 = .ok (.getfield 69, 3) := by decide +kernel
theorem dX6_form_39 : decode cX6_form 39 = .ok (.bipush 20, 2) := by decide +kernel
theorem dX6_form_41 : decode cX6_form 41 = .ok (.if_icmp .lt 13, 3) := by decide +kernel
theorem dX6_form_44 : decode cX6_form 44 = .ok (.new 102, 3) := by decide +kernel
theorem dX6_form_47 : decode cX6_form 47 = .ok (.dup, 1) := by decide +kernel
theorem dX6_form_48 : decode cX6_form 48 = .ok (.ldc 104, 2) := by decide +kernel
theorem dX6_form_50 : decode cX6_form 50 = .ok (.invokespecial 106, 3) := by decide +kernel
theorem dX6_form_53 : decode cX6_form 53 = .ok (.athrow, 1) := by decide +kernel
theorem dX6_form_54 : decode cX6_form 54 = .ok (.aload_n 0, 1) := by decide +kernel
theorem dX6_form_55 : decode cX6_form 55 = .ok (.getfield 50, 3) := by decide +kernel
theorem dX6_form_58 : decode cX6_form 58 = .ok (.aload_n 0, 1) := by decide +kernel
theorem dX6_form_59 : decode cX6_form 59 = .ok (.getfield 69, 3) := by decide +kernel
theorem dX6_form_62 : decode cX6_form 62 = .ok (.iload_n 1, 1) := by decide +kernel
theorem dX6_form_63 : decode cX6_form 63 = .ok (.invokestatic 107, 3) := by decide +kernel
theorem dX6_form_66 : decode cX6_form 66 = .ok (.aload_n 0, 1) := by decide +kernel
theorem dX6_form_67 : decode cX6_form 67 = .ok (.getfield 54, 3) := by decide +kernel
theorem dX6_form_70 : decode cX6_form 70 = .ok (.aload_n 0, 1) := by decide +kernel
theorem dX6_form_71 : decode cX6_form 71 = .ok (.getfield 69, 3) := by decide +kernel
theorem dX6_form_74 : decode cX6_form 74 = .ok (.iload_n 2, 1) := by decide +kernel
theorem dX6_form_75 : decode cX6_form 75 = .ok (.invokestatic 107, 3) := by decide +kernel
theorem dX6_form_78 : decode cX6_form 78 = .ok (.aload_n 0, 1) := by decide +kernel
theorem dX6_form_79 : decode cX6_form 79 = .ok (.dup, 1) := by decide +kernel
theorem dX6_form_80 : decode cX6_form 80 = .ok (.getfield 69, 3) := by decide +kernel
theorem dX6_form_83 : decode cX6_form 83 = .ok (.iconst 1, 1) := by decide +kernel
theorem dX6_form_84 : decode cX6_form 84 = .ok (.iadd, 1) := by decide +kernel
theorem dX6_form_85 : decode cX6_form 85 = .ok (.putfield 69, 3) := by decide +kernel
theorem dX6_form_88 : decode cX6_form 88 = .ok (.aload_n 0, 1) := by decide +kernel
theorem dX6_form_89 : decode cX6_form 89 = .ok (.getfield 69, 3) := by decide +kernel
theorem dX6_form_92 : decode cX6_form 92 = .ok (.iconst 1, 1) := by decide +kernel
theorem dX6_form_93 : decode cX6_form 93 = .ok (.isub, 1) := by decide +kernel
theorem dX6_form_94 : decode cX6_form 94 = .ok (.ireturn, 1) := by decide +kernel
set_option maxRecDepth 20000 in
theorem ggX6_formIs_X6_checkForm : GoodIn wsX6_formIs wsX6_checkForm := goodIn_ca (goodIn_r _ [12, 13, 14, 15, 124, 125, 126, 127, 128, 129, 130, 131, 132, 133, 134, 135] (by decide +kernel) (by decide +kernel)) (goodIn_sub (fun _ h => List.mem_cons_of_mem _ (List.mem_append_right _ h)) (by decide +kernel))
set_option maxRecDepth 20000 in
theorem gX6_formIs_X6_checkForm : GoodIn wsX6_formIs (wsV RX6 111 RX6 yX6_checkForm wsX6_checkForm) := goodIn_app (goodIn_of _ (by decide +kernel)) ggX6_formIs_X6_checkForm
set_option maxRecDepth 20000 in
theorem ggX6_formIs_X6_read : GoodIn wsX6_formIs wsX6_read := goodIn_r _ [18] (by decide +kernel) (by decide +kernel)
set_option maxRecDepth 20000 in
theorem gX6_formIs_X6_read : GoodIn wsX6_formIs (va_wsS RX6 114 yX6_read wsX6_read) := goodIn_app (goodIn_of _ (by decide +kernel)) ggX6_formIs_X6_read
set_option maxRecDepth 20000 in
theorem ggX6_formIs_X6_countRoots : GoodIn wsX6_formIs wsX6_countRoots := goodIn_r _ [22, 23, 24, 25, 26, 27, 11, 28, 29, 30, 31, 32, 33, 34, 35, 36, 37, 38, 39, 40, 41, 42, 43, 44, 45, 46, 47, 48, 49, 16, 17, 18, 50, 51, 52, 53, 54, 55, 124, 125, 126, 127, 128, 129, 130, 131, 132, 133, 134, 135, 143] (by decide +kernel) (by decide +kernel)
set_option maxRecDepth 20000 in
theorem gX6_formIs_X6_countRoots : GoodIn wsX6_formIs (wsV RX6 118 RX6 yX6_countRoots wsX6_countRoots) := goodIn_app (goodIn_of _ (by decide +kernel)) ggX6_formIs_X6_countRoots
set_option maxRecDepth 20000 in
theorem ggX6_formIs_X6_isNull : GoodIn wsX6_formIs wsX6_isNull := goodIn_r _ [59, 23, 24, 25, 26, 27, 11, 28, 29, 30, 31, 32, 33, 34, 35, 36, 37, 38, 39, 40, 41, 42, 43, 44, 45, 46, 47, 48, 49, 16, 17, 18, 50, 51, 52, 53, 54, 55, 124, 125, 126, 127, 128, 129, 130, 131, 132, 133, 134, 135, 143] (by decide +kernel) (by decide +kernel)
set_option maxRecDepth 20000 in
theorem gX6_formIs_X6_isNull : GoodIn wsX6_formIs (wsV RX6 122 RX6 yX6_isNull wsX6_isNull) := goodIn_app (goodIn_of _ (by decide +kernel)) ggX6_formIs_X6_isNull
set_option maxRecDepth 20000 in
theorem ggX6_formIs_X4_leaves : GoodIn wsX6_formIs wsX4_leaves := goodIn_r _ [64, 65, 66, 67, 68, 63, 69, 70, 71, 72, 73, 74, 75, 76, 77, 78, 79, 80, 81, 17, 11, 18, 144, 145, 146, 147, 148, 149, 150, 151] (by decide +kernel) (by decide +kernel)
set_option maxRecDepth 20000 in
theorem gX6_formIs_X4_leaves : GoodIn wsX6_formIs (wsV RX6 126 RX4 yX4_leaves wsX4_leaves) := goodIn_app (goodIn_of _ (by decide +kernel)) ggX6_formIs_X4_leaves
set_option maxRecDepth 20000 in
theorem ggX6_formIs_X5_alone : GoodIn wsX6_formIs wsX5_alone := goodIn_r _ [86, 87, 88, 89, 85, 90, 91, 92, 93, 94, 95, 96, 97, 98, 99, 100, 101, 102, 103, 104, 105, 106, 107, 108, 109, 110, 111, 112, 113, 114, 17, 11, 18, 44, 45, 115, 67, 68, 63, 69, 70, 71, 72, 73, 65, 74, 75, 76, 77, 78, 79, 80, 81, 136, 137, 138, 139, 140, 141, 142, 144, 145, 146, 147, 148, 149, 150, 151] (by decide +kernel) (by decide +kernel)
set_option maxRecDepth 20000 in
theorem gX6_formIs_X5_alone : GoodIn wsX6_formIs (wsV RX6 129 RX5 yX5_alone wsX5_alone) := goodIn_app (goodIn_of _ (by decide +kernel)) ggX6_formIs_X5_alone
set_option maxRecDepth 20000 in
theorem ggX6_formIs_X5_leastCode : GoodIn wsX6_formIs wsX5_leastCode := goodIn_r _ [119, 101, 100, 120, 121, 122, 123, 17, 11, 18, 136, 137, 138, 139, 140, 141, 142] (by decide +kernel) (by decide +kernel)
set_option maxRecDepth 20000 in
theorem gX6_formIs_X5_leastCode : GoodIn wsX6_formIs (wsV RX6 136 RX5 yX5_leastCode wsX5_leastCode) := goodIn_app (goodIn_of _ (by decide +kernel)) ggX6_formIs_X5_leastCode
theorem dX6_formIs_0 : decode cX6_formIs 0 = .ok (.aload_n 0, 1) := by decide +kernel
theorem dX6_formIs_1 : decode cX6_formIs 1 = .ok (.iload_n 1, 1) := by decide +kernel
theorem dX6_formIs_2 : decode cX6_formIs 2 = .ok (.invokevirtual 111, 3) := by decide +kernel
theorem dX6_formIs_5 : decode cX6_formIs 5 = .ok (.aload_n 0, 1) := by decide +kernel
theorem dX6_formIs_6 : decode cX6_formIs 6 = .ok (.getfield 50, 3) := by decide +kernel
theorem dX6_formIs_9 : decode cX6_formIs 9 = .ok (.iload_n 1, 1) := by decide +kernel
theorem dX6_formIs_10 : decode cX6_formIs 10 = .ok (.invokestatic 114, 3) := by decide +kernel
theorem dX6_formIs_13 : decode cX6_formIs 13 = .ok (.istore_n 3, 1) := by decide +kernel
theorem dX6_formIs_14 : decode cX6_formIs 14 = .ok (.aload_n 0, 1) := by decide +kernel
theorem dX6_formIs_15 : decode cX6_formIs 15 = .ok (.getfield 54, 3) := by decide +kernel
theorem dX6_formIs_18 : decode cX6_formIs 18 = .ok (.iload_n 1, 1) := by decide +kernel
theorem dX6_formIs_19 : decode cX6_formIs 19 = .ok (.invokestatic 114, 3) := by decide +kernel
theorem dX6_formIs_22 : decode cX6_formIs 22 = .ok (.istore 4, 2) := by decide +kernel
theorem dX6_formIs_24 : decode cX6_formIs 24 = .ok (.iload_n 2, 1) := by decide +kernel
theorem dX6_formIs_25 : decode cX6_formIs 25 = .ok (.tableswitch 127 0 6 #[43, 45, 48, 56, 72, 91, 109], 43) := by decide +kernel
theorem dX6_formIs_68 : decode cX6_formIs 68 = .ok (.iload_n 3, 1) := by decide +kernel
theorem dX6_formIs_69 : decode cX6_formIs 69 = .ok (.ireturn, 1) := by decide +kernel
theorem dX6_formIs_70 : decode cX6_formIs 70 = .ok (.iload 4, 2) := by decide +kernel
theorem dX6_formIs_72 : decode cX6_formIs 72 = .ok (.ireturn, 1) := by decide +kernel
theorem dX6_formIs_73 : decode cX6_formIs 73 = .ok (.aload_n 0, 1) := by decide +kernel
theorem dX6_formIs_74 : decode cX6_formIs 74 = .ok (.iload_n 3, 1) := by decide +kernel
theorem dX6_formIs_75 : decode cX6_formIs 75 = .ok (.iload 4, 2) := by decide +kernel
theorem dX6_formIs_77 : decode cX6_formIs 77 = .ok (.invokevirtual 118, 3) := by decide +kernel
theorem dX6_formIs_80 : decode cX6_formIs 80 = .ok (.ireturn, 1) := by decide +kernel
theorem dX6_formIs_81 : decode cX6_formIs 81 = .ok (.aload_n 0, 1) := by decide +kernel
theorem dX6_formIs_82 : decode cX6_formIs 82 = .ok (.iload_n 3, 1) := by decide +kernel
theorem dX6_formIs_83 : decode cX6_formIs 83 = .ok (.iload 4, 2) := by decide +kernel
theorem dX6_formIs_85 : decode cX6_formIs 85 = .ok (.invokevirtual 122, 3) := by decide +kernel
theorem dX6_formIs_88 : decode cX6_formIs 88 = .ok (.ifCond .eq 7, 3) := by decide +kernel
theorem dX6_formIs_91 : decode cX6_formIs 91 = .ok (.iconst 1, 1) := by decide +kernel
theorem dX6_formIs_92 : decode cX6_formIs 92 = .ok (.goto 4, 3) := by decide +kernel
theorem dX6_formIs_95 : decode cX6_formIs 95 = .ok (.iconst 0, 1) := by decide +kernel
theorem dX6_formIs_96 : decode cX6_formIs 96 = .ok (.ireturn, 1) := by decide +kernel
theorem dX6_formIs_97 : decode cX6_formIs 97 = .ok (.aload_n 0, 1) := by decide +kernel
theorem dX6_formIs_98 : decode cX6_formIs 98 = .ok (.getfield 37, 3) := by decide +kernel
theorem dX6_formIs_101 : decode cX6_formIs 101 = .ok (.iload_n 3, 1) := by decide +kernel
theorem dX6_formIs_102 : decode cX6_formIs 102 = .ok (.iload 4, 2) := by decide +kernel
theorem dX6_formIs_104 : decode cX6_formIs 104 = .ok (.invokevirtual 126, 3) := by decide +kernel
theorem dX6_formIs_107 : decode cX6_formIs 107 = .ok (.ifCond .eq 7, 3) := by decide +kernel
theorem dX6_formIs_110 : decode cX6_formIs 110 = .ok (.iconst 1, 1) := by decide +kernel
theorem dX6_formIs_111 : decode cX6_formIs 111 = .ok (.goto 4, 3) := by decide +kernel
theorem dX6_formIs_114 : decode cX6_formIs 114 = .ok (.iconst 0, 1) := by decide +kernel
theorem dX6_formIs_115 : decode cX6_formIs 115 = .ok (.ireturn, 1) := by decide +kernel
theorem dX6_formIs_116 : decode cX6_formIs 116 = .ok (.aload_n 0, 1) := by decide +kernel
theorem dX6_formIs_117 : decode cX6_formIs 117 = .ok (.getfield 46, 3) := by decide +kernel
theorem dX6_formIs_120 : decode cX6_formIs 120 = .ok (.iload_n 3, 1) := by decide +kernel
theorem dX6_formIs_121 : decode cX6_formIs 121 = .ok (.iload 4, 2) := by decide +kernel
theorem dX6_formIs_123 : decode cX6_formIs 123 = .ok (.invokevirtual 129, 3) := by decide +kernel
theorem dX6_formIs_126 : decode cX6_formIs 126 = .ok (.aload_n 0, 1) := by decide +kernel
theorem dX6_formIs_127 : decode cX6_formIs 127 = .ok (.getfield 46, 3) := by decide +kernel
theorem dX6_formIs_130 : decode cX6_formIs 130 = .ok (.getfield 133, 3) := by decide +kernel
theorem dX6_formIs_133 : decode cX6_formIs 133 = .ok (.ireturn, 1) := by decide +kernel
theorem dX6_formIs_134 : decode cX6_formIs 134 = .ok (.aload_n 0, 1) := by decide +kernel
theorem dX6_formIs_135 : decode cX6_formIs 135 = .ok (.getfield 46, 3) := by decide +kernel
theorem dX6_formIs_138 : decode cX6_formIs 138 = .ok (.iload_n 3, 1) := by decide +kernel
theorem dX6_formIs_139 : decode cX6_formIs 139 = .ok (.iload 4, 2) := by decide +kernel
theorem dX6_formIs_141 : decode cX6_formIs 141 = .ok (.invokevirtual 129, 3) := by decide +kernel
theorem dX6_formIs_144 : decode cX6_formIs 144 = .ok (.aload_n 0, 1) := by decide +kernel
theorem dX6_formIs_145 : decode cX6_formIs 145 = .ok (.getfield 46, 3) := by decide +kernel
theorem dX6_formIs_148 : decode cX6_formIs 148 = .ok (.invokevirtual 136, 3) := by decide +kernel
theorem dX6_formIs_151 : decode cX6_formIs 151 = .ok (.ireturn, 1) := by decide +kernel
theorem dX6_formIs_152 : decode cX6_formIs 152 = .ok (.new 73, 3) := by decide +kernel
theorem dX6_formIs_155 : decode cX6_formIs 155 = .ok (.dup, 1) := by decide +kernel
theorem dX6_formIs_156 : decode cX6_formIs 156 = .ok (.ldc 140, 2) := by decide +kernel
theorem dX6_formIs_158 : decode cX6_formIs 158 = .ok (.invokespecial 77, 3) := by decide +kernel
theorem dX6_formIs_161 : decode cX6_formIs 161 = .ok (.athrow, 1) := by decide +kernel
set_option maxRecDepth 20000 in
theorem ggX6_at_X6_checkForm : GoodIn wsX6_at wsX6_checkForm := goodIn_ca (goodIn_r _ [11, 12, 13, 14, 43, 44, 45, 46, 47, 48, 49, 50, 51, 52, 53, 54] (by decide +kernel) (by decide +kernel)) (goodIn_sub (fun _ h => List.mem_cons_of_mem _ (List.mem_append_right _ h)) (by decide +kernel))
set_option maxRecDepth 20000 in
theorem gX6_at_X6_checkForm : GoodIn wsX6_at (wsV RX6 111 RX6 yX6_checkForm wsX6_checkForm) := goodIn_app (goodIn_of _ (by decide +kernel)) ggX6_at_X6_checkForm
set_option maxRecDepth 20000 in
theorem ggX6_at_X2_has : GoodIn wsX6_at wsX2_has := goodIn_r _ [19, 20, 55] (by decide +kernel) (by decide +kernel)
set_option maxRecDepth 20000 in
theorem gX6_at_X2_has : GoodIn wsX6_at (wsV RX6 142 RX2 yX2_has wsX2_has) := goodIn_app (goodIn_of _ (by decide +kernel)) ggX6_at_X2_has
set_option maxRecDepth 20000 in
theorem ggX6_at_X6_read : GoodIn wsX6_at wsX6_read := goodIn_r _ [23] (by decide +kernel) (by decide +kernel)
set_option maxRecDepth 20000 in
theorem gX6_at_X6_read : GoodIn wsX6_at (va_wsS RX6 114 yX6_read wsX6_read) := goodIn_app (goodIn_of _ (by decide +kernel)) ggX6_at_X6_read
set_option maxRecDepth 20000 in
theorem ggX6_at_X2_spell : GoodIn wsX6_at wsX2_spell := goodIn_r _ [27, 20, 28, 29, 30, 18, 31, 32, 33, 34, 35, 36, 10, 37, 55] (by decide +kernel) (by decide +kernel)
set_option maxRecDepth 20000 in
theorem gX6_at_X2_spell : GoodIn wsX6_at (wsV RX6 147 RX2 yX2_spell wsX2_spell) := goodIn_app (goodIn_of _ (by decide +kernel)) ggX6_at_X2_spell
set_option maxRecDepth 20000 in
theorem ggX6_at_X2_power : GoodIn wsX6_at wsX2_power := goodIn_r _ [41, 28, 29, 30, 18, 31, 20, 32, 33, 34, 35, 55] (by decide +kernel) (by decide +kernel)
set_option maxRecDepth 20000 in
theorem gX6_at_X2_power : GoodIn wsX6_at (wsV RX6 151 RX2 yX2_power wsX2_power) := goodIn_app (goodIn_of _ (by decide +kernel)) ggX6_at_X2_power
set_option maxRecDepth 20000 in
theorem ggX6_at_X2_rest : GoodIn wsX6_at wsX2_rest := goodIn_r _ [31, 20, 32, 33, 34, 35, 55] (by decide +kernel) (by decide +kernel)
set_option maxRecDepth 20000 in
theorem gX6_at_X2_rest : GoodIn wsX6_at (wsV RX6 154 RX2 yX2_rest wsX2_rest) := goodIn_app (goodIn_of _ (by decide +kernel)) ggX6_at_X2_rest
theorem dX6_at_0 : decode cX6_at 0 = .ok (.aload_n 0, 1) := by decide +kernel
theorem dX6_at_1 : decode cX6_at 1 = .ok (.iload_n 1, 1) := by decide +kernel
theorem dX6_at_2 : decode cX6_at 2 = .ok (.invokevirtual 111, 3) := by decide +kernel
theorem dX6_at_5 : decode cX6_at 5 = .ok (.aload_n 0, 1) := by decide +kernel
theorem dX6_at_6 : decode cX6_at 6 = .ok (.getfield 14, 3) := by decide +kernel
theorem dX6_at_9 : decode cX6_at 9 = .ok (.iload_n 2, 1) := by decide +kernel
theorem dX6_at_10 : decode cX6_at 10 = .ok (.invokevirtual 142, 3) := by decide +kernel
theorem dX6_at_13 : decode cX6_at 13 = .ok (.ifCond .eq 14, 3) := by decide +kernel
theorem dX6_at_16 : decode cX6_at 16 = .ok (.aload_n 0, 1) := by decide +kernel
theorem dX6_at_17 : decode cX6_at 17 = .ok (.getfield 14, 3) := by decide +kernel
theorem dX6_at_20 : decode cX6_at 20 = .ok (.iload_n 3, 1) := by decide +kernel
theorem dX6_at_21 : decode cX6_at 21 = .ok (.invokevirtual 142, 3) := by decide +kernel
theorem dX6_at_24 : decode cX6_at 24 = .ok (.ifCond .ne 13, 3) := by decide +kernel
theorem dX6_at_27 : decode cX6_at 27 = .ok (.new 73, 3) := by decide +kernel
theorem dX6_at_30 : decode cX6_at 30 = .ok (.dup, 1) := by decide +kernel
theorem dX6_at_31 : decode cX6_at 31 = .ok (.ldc 145, 2) := by decide +kernel
theorem dX6_at_33 : decode cX6_at 33 = .ok (.invokespecial 77, 3) := by decide +kernel
theorem dX6_at_36 : decode cX6_at 36 = .ok (.athrow, 1) := by decide +kernel
theorem dX6_at_37 : decode cX6_at 37 = .ok (.aload_n 0, 1) := by decide +kernel
theorem dX6_at_38 : decode cX6_at 38 = .ok (.getfield 50, 3) := by decide +kernel
theorem dX6_at_41 : decode cX6_at 41 = .ok (.iload_n 1, 1) := by decide +kernel
theorem dX6_at_42 : decode cX6_at 42 = .ok (.invokestatic 114, 3) := by decide +kernel
theorem dX6_at_45 : decode cX6_at 45 = .ok (.istore 4, 2) := by decide +kernel
theorem dX6_at_47 : decode cX6_at 47 = .ok (.aload_n 0, 1) := by decide +kernel
theorem dX6_at_48 : decode cX6_at 48 = .ok (.getfield 14, 3) := by decide +kernel
theorem dX6_at_51 : decode cX6_at 51 = .ok (.aload_n 0, 1) := by decide +kernel
theorem dX6_at_52 : decode cX6_at 52 = .ok (.getfield 54, 3) := by decide +kernel
theorem dX6_at_55 : decode cX6_at 55 = .ok (.iload_n 1, 1) := by decide +kernel
theorem dX6_at_56 : decode cX6_at 56 = .ok (.invokestatic 114, 3) := by decide +kernel
theorem dX6_at_59 : decode cX6_at 59 = .ok (.aload_n 0, 1) := by decide +kernel
theorem dX6_at_60 : decode cX6_at 60 = .ok (.getfield 57, 3) := by decide +kernel
theorem dX6_at_63 : decode cX6_at 63 = .ok (.invokevirtual 147, 3) := by decide +kernel
theorem dX6_at_66 : decode cX6_at 66 = .ok (.iconst 0, 1) := by decide +kernel
theorem dX6_at_67 : decode cX6_at 67 = .ok (.istore 5, 2) := by decide +kernel
theorem dX6_at_69 : decode cX6_at 69 = .ok (.iconst 0, 1) := by decide +kernel
theorem dX6_at_70 : decode cX6_at 70 = .ok (.istore 6, 2) := by decide +kernel
theorem dX6_at_72 : decode cX6_at 72 = .ok (.iload 6, 2) := by decide +kernel
theorem dX6_at_74 : decode cX6_at 74 = .ok (.iload 4, 2) := by decide +kernel
theorem dX6_at_76 : decode cX6_at 76 = .ok (.if_icmp .gt 48, 3) := by decide +kernel
theorem dX6_at_79 : decode cX6_at 79 = .ok (.iload 5, 2) := by decide +kernel
theorem dX6_at_81 : decode cX6_at 81 = .ok (.aload_n 0, 1) := by decide +kernel
theorem dX6_at_82 : decode cX6_at 82 = .ok (.getfield 57, 3) := by decide +kernel
theorem dX6_at_85 : decode cX6_at 85 = .ok (.iload 6, 2) := by decide +kernel
theorem dX6_at_87 : decode cX6_at 87 = .ok (.invokestatic 114, 3) := by decide +kernel
theorem dX6_at_90 : decode cX6_at 90 = .ok (.aload_n 0, 1) := by decide +kernel
theorem dX6_at_91 : decode cX6_at 91 = .ok (.getfield 14, 3) := by decide +kernel
theorem dX6_at_94 : decode cX6_at 94 = .ok (.iload_n 2, 1) := by decide +kernel
theorem dX6_at_95 : decode cX6_at 95 = .ok (.iload 4, 2) := by decide +kernel
theorem dX6_at_97 : decode cX6_at 97 = .ok (.iload 6, 2) := by decide +kernel
theorem dX6_at_99 : decode cX6_at 99 = .ok (.isub, 1) := by decide +kernel
theorem dX6_at_100 : decode cX6_at 100 = .ok (.invokevirtual 151, 3) := by decide +kernel
theorem dX6_at_103 : decode cX6_at 103 = .ok (.imul, 1) := by decide +kernel
theorem dX6_at_104 : decode cX6_at 104 = .ok (.aload_n 0, 1) := by decide +kernel
theorem dX6_at_105 : decode cX6_at 105 = .ok (.getfield 14, 3) := by decide +kernel
theorem dX6_at_108 : decode cX6_at 108 = .ok (.iload_n 3, 1) := by decide +kernel
theorem dX6_at_109 : decode cX6_at 109 = .ok (.iload 6, 2) := by decide +kernel
theorem dX6_at_111 : decode cX6_at 111 = .ok (.invokevirtual 151, 3) := by decide +kernel
theorem dX6_at_114 : decode cX6_at 114 = .ok (.imul, 1) := by decide +kernel
theorem dX6_at_115 : decode cX6_at 115 = .ok (.iadd, 1) := by decide +kernel
theorem dX6_at_116 : decode cX6_at 116 = .ok (.istore 5, 2) := by decide +kernel
theorem dX6_at_118 : decode cX6_at 118 = .ok (.iinc 6 1, 3) := by decide +kernel
theorem dX6_at_121 : decode cX6_at 121 = .ok (.goto (-49), 3) := by decide +kernel
theorem dX6_at_124 : decode cX6_at 124 = .ok (.aload_n 0, 1) := by decide +kernel
theorem dX6_at_125 : decode cX6_at 125 = .ok (.getfield 14, 3) := by decide +kernel
theorem dX6_at_128 : decode cX6_at 128 = .ok (.iload 5, 2) := by decide +kernel
theorem dX6_at_130 : decode cX6_at 130 = .ok (.invokevirtual 154, 3) := by decide +kernel
theorem dX6_at_133 : decode cX6_at 133 = .ok (.ireturn, 1) := by decide +kernel
set_option maxRecDepth 20000 in
theorem ggX6_multiplicity_X6_checkForm : GoodIn wsX6_multiplicity wsX6_checkForm := goodIn_ca (goodIn_r _ [11, 1, 2, 12, 47, 48, 49, 50, 51, 52, 53, 54, 55, 56, 57, 58] (by decide +kernel) (by decide +kernel)) (goodIn_sub (fun _ h => List.mem_cons_of_mem _ (List.mem_append_right _ h)) (by decide +kernel))
set_option maxRecDepth 20000 in
theorem gX6_multiplicity_X6_checkForm : GoodIn wsX6_multiplicity (wsV RX6 111 RX6 yX6_checkForm wsX6_checkForm) := goodIn_app (goodIn_of _ (by decide +kernel)) ggX6_multiplicity_X6_checkForm
set_option maxRecDepth 20000 in
theorem ggX6_multiplicity_X6_read : GoodIn wsX6_multiplicity wsX6_read := goodIn_r _ [15] (by decide +kernel) (by decide +kernel)
set_option maxRecDepth 20000 in
theorem gX6_multiplicity_X6_read : GoodIn wsX6_multiplicity (va_wsS RX6 114 yX6_read wsX6_read) := goodIn_app (goodIn_of _ (by decide +kernel)) ggX6_multiplicity_X6_read
set_option maxRecDepth 20000 in
theorem ggX6_multiplicity_X6_divisions : GoodIn wsX6_multiplicity wsX6_divisions := goodIn_r _ [19, 3, 20, 4, 21, 22, 23, 24, 25, 26, 27, 28, 29, 30, 31, 32, 33, 34, 35, 10, 36, 37, 38, 39, 40, 13, 14, 15, 41, 42, 43, 44, 45, 46, 47, 48, 49, 50, 51, 52, 53, 54, 55, 56, 57, 58, 59] (by decide +kernel) (by decide +kernel)
set_option maxRecDepth 20000 in
theorem gX6_multiplicity_X6_divisions : GoodIn wsX6_multiplicity (wsV RX6 162 RX6 yX6_divisions wsX6_divisions) := goodIn_app (goodIn_of _ (by decide +kernel)) ggX6_multiplicity_X6_divisions
theorem dX6_multiplicity_0 : decode cX6_multiplicity 0 = .ok (.aload_n 0, 1) := by decide +kernel
theorem dX6_multiplicity_1 : decode cX6_multiplicity 1 = .ok (.iload_n 1, 1) := by decide +kernel
theorem dX6_multiplicity_2 : decode cX6_multiplicity 2 = .ok (.invokevirtual 111, 3) := by decide +kernel
theorem dX6_multiplicity_5 : decode cX6_multiplicity 5 = .ok (.iload_n 2, 1) := by decide +kernel
theorem dX6_multiplicity_6 : decode cX6_multiplicity 6 = .ok (.ifCond .lt 14, 3) := by decide +kernel
theorem dX6_multiplicity_9 : decode cX6_multiplicity 9 = .ok (.iload_n 2, 1) := by decide +kernel
theorem dX6_multiplicity_10 : decode cX6_multiplicity 10 = .ok (.aload_n 0, 1) := by decide +kernel
theorem dX6_multiplicity_11 : decode cX6_multiplicity 11 = .ok (.getfield 14, 3) := by decide +kernel
theorem dX6_multiplicity_14 : decode cX6_multiplicity 14 = .ok (.getfield 80, 3) := by decide +kernel
theorem dX6_multiplicity_17 : decode cX6_multiplicity 17 = .ok (.if_icmp .le 13, 3) := by decide +kernel
theorem dX6_multiplicity_20 : decode cX6_multiplicity 20 = .ok (.new 157, 3) := by decide +kernel
theorem dX6_multiplicity_23 : decode cX6_multiplicity 23 = .ok (.dup, 1) := by decide +kernel
theorem dX6_multiplicity_24 : decode cX6_multiplicity 24 = .ok (.ldc 159, 2) := by decide +kernel
theorem dX6_multiplicity_26 : decode cX6_multiplicity 26 = .ok (.invokespecial 161, 3) := by decide +kernel
theorem dX6_multiplicity_29 : decode cX6_multiplicity 29 = .ok (.athrow, 1) := by decide +kernel
theorem dX6_multiplicity_30 : decode cX6_multiplicity 30 = .ok (.aload_n 0, 1) := by decide +kernel
theorem dX6_multiplicity_31 : decode cX6_multiplicity 31 = .ok (.aload_n 0, 1) := by decide +kernel
theorem dX6_multiplicity_32 : decode cX6_multiplicity 32 = .ok (.getfield 50, 3) := by decide +kernel
theorem dX6_multiplicity_35 : decode cX6_multiplicity 35 = .ok (.iload_n 1, 1) := by decide +kernel
theorem dX6_multiplicity_36 : decode cX6_multiplicity 36 = .ok (.invokestatic 114, 3) := by decide +kernel
theorem dX6_multiplicity_39 : decode cX6_multiplicity 39 = .ok (.aload_n 0, 1) := by decide +kernel
theorem dX6_multiplicity_40 : decode cX6_multiplicity 40 = .ok (.getfield 54, 3) := by decide +kernel
theorem dX6_multiplicity_43 : decode cX6_multiplicity 43 = .ok (.iload_n 1, 1) := by decide +kernel
theorem dX6_multiplicity_44 : decode cX6_multiplicity 44 = .ok (.invokestatic 114, 3) := by decide +kernel
theorem dX6_multiplicity_47 : decode cX6_multiplicity 47 = .ok (.iload_n 2, 1) := by decide +kernel
theorem dX6_multiplicity_48 : decode cX6_multiplicity 48 = .ok (.invokevirtual 162, 3) := by decide +kernel
theorem dX6_multiplicity_51 : decode cX6_multiplicity 51 = .ok (.ireturn, 1) := by decide +kernel
set_option maxRecDepth 20000 in
theorem ggX6_generator_X2_has : GoodIn wsX6_generator wsX2_has := goodIn_r _ [14, 15, 150] (by decide +kernel) (by decide +kernel)
set_option maxRecDepth 20000 in
theorem gX6_generator_X2_has : GoodIn wsX6_generator (wsV RX6 142 RX2 yX2_has wsX2_has) := goodIn_app (goodIn_of _ (by decide +kernel)) ggX6_generator_X2_has
set_option maxRecDepth 20000 in
theorem ggX6_generator_X2_rest : GoodIn wsX6_generator wsX2_rest := goodIn_r _ [19, 15, 20, 21, 22, 23, 150] (by decide +kernel) (by decide +kernel)
set_option maxRecDepth 20000 in
theorem gX6_generator_X2_rest : GoodIn wsX6_generator (wsV RX6 154 RX2 yX2_rest wsX2_rest) := goodIn_app (goodIn_of _ (by decide +kernel)) ggX6_generator_X2_rest
set_option maxRecDepth 20000 in
theorem ggX6_generator_X4_tell : GoodIn wsX6_generator wsX4_tell := goodIn_r _ [28, 29, 30, 31, 32, 33, 34, 35, 36, 37, 38, 39, 40, 41, 42, 43, 44, 13, 45, 15, 46, 47, 48, 49, 50, 51, 52, 53, 54, 55, 56, 57, 58, 59, 60, 61, 62, 63, 64, 65, 66, 67, 17, 18, 19, 20, 21, 22, 23, 68, 69, 70, 71, 72, 73, 74, 75, 76, 77, 78, 79, 80, 81, 82, 83, 84, 85, 86, 87, 88, 89, 90, 91, 92, 93, 94, 95, 96, 97, 98, 99, 27, 100, 101, 102, 103, 104, 105, 106, 107, 108, 109, 110, 111, 112, 113, 114, 115, 116, 117, 118, 119, 120, 121, 122, 123, 124, 125, 126, 127, 128, 129, 130, 144, 145, 146, 147, 148, 149, 151, 152, 150, 153, 154, 155] (by decide +kernel) (by decide +kernel)
set_option maxRecDepth 20000 in
theorem gX6_generator_X4_tell : GoodIn wsX6_generator (wsV RX6 173 RX4 yX4_tell wsX4_tell) := goodIn_app (goodIn_of _ (by decide +kernel)) ggX6_generator_X4_tell
set_option maxRecDepth 20000 in
theorem ggX6_generator_J7_fill_53178 : GoodIn wsX6_generator wsJ7_fill_53178 := goodIn_r _ [106] (by decide +kernel) (by decide +kernel)
set_option maxRecDepth 20000 in
theorem gX6_generator_J7_fill_53178 : GoodIn wsX6_generator (va_wsS RX6 86 yJ7_fill_53178 wsJ7_fill_53178) := goodIn_app (goodIn_of _ (by decide +kernel)) ggX6_generator_J7_fill_53178
theorem dX6_generator_0 : decode cX6_generator 0 = .ok (.aload_n 0, 1) := by decide +kernel
theorem dX6_generator_1 : decode cX6_generator 1 = .ok (.getfield 14, 3) := by decide +kernel
theorem dX6_generator_4 : decode cX6_generator 4 = .ok (.iload_n 1, 1) := by decide +kernel
theorem dX6_generator_5 : decode cX6_generator 5 = .ok (.invokevirtual 142, 3) := by decide +kernel
theorem dX6_generator_8 : decode cX6_generator 8 = .ok (.ifCond .eq 37, 3) := by decide +kernel
theorem dX6_generator_11 : decode cX6_generator 11 = .ok (.aload_n 0, 1) := by decide +kernel
theorem dX6_generator_12 : decode cX6_generator 12 = .ok (.getfield 14, 3) := by decide +kernel
theorem dX6_generator_15 : decode cX6_generator 15 = .ok (.iload_n 2, 1) := by decide +kernel
theorem dX6_generator_16 : decode cX6_generator 16 = .ok (.invokevirtual 142, 3) := by decide +kernel
theorem dX6_generator_19 : decode cX6_generator 19 = .ok (.ifCond .eq 26, 3) := by decide +kernel
theorem dX6_generator_22 : decode cX6_generator 22 = .ok (.aload_n 0, 1) := by decide +kernel
theorem dX6_generator_23 : decode cX6_generator 23 = .ok (.getfield 14, 3) := by decide +kernel
theorem dX6_generator_26 : decode cX6_generator 26 = .ok (.iload_n 3, 1) := by decide +kernel
theorem dX6_generator_27 : decode cX6_generator 27 = .ok (.invokevirtual 142, 3) := by decide +kernel
theorem dX6_generator_30 : decode cX6_generator 30 = .ok (.ifCond .eq 15, 3) := by decide +kernel
theorem dX6_generator_33 : decode cX6_generator 33 = .ok (.aload_n 0, 1) := by decide +kernel
theorem dX6_generator_34 : decode cX6_generator 34 = .ok (.getfield 14, 3) := by decide +kernel
theorem dX6_generator_37 : decode cX6_generator 37 = .ok (.iload 4, 2) := by decide +kernel
theorem dX6_generator_39 : decode cX6_generator 39 = .ok (.invokevirtual 142, 3) := by decide +kernel
theorem dX6_generator_42 : decode cX6_generator 42 = .ok (.ifCond .ne 13, 3) := by decide +kernel
theorem dX6_generator_45 : decode cX6_generator 45 = .ok (.new 73, 3) := by decide +kernel
theorem dX6_generator_48 : decode cX6_generator 48 = .ok (.dup, 1) := by decide +kernel
theorem dX6_generator_49 : decode cX6_generator 49 = .ok (.ldc 166, 2) := by decide +kernel
theorem dX6_generator_51 : decode cX6_generator 51 = .ok (.invokespecial 77, 3) := by decide +kernel
theorem dX6_generator_54 : decode cX6_generator 54 = .ok (.athrow, 1) := by decide +kernel
theorem dX6_generator_55 : decode cX6_generator 55 = .ok (.aload_n 0, 1) := by decide +kernel
theorem dX6_generator_56 : decode cX6_generator 56 = .ok (.getfield 14, 3) := by decide +kernel
theorem dX6_generator_59 : decode cX6_generator 59 = .ok (.iload_n 1, 1) := by decide +kernel
theorem dX6_generator_60 : decode cX6_generator 60 = .ok (.iload 4, 2) := by decide +kernel
theorem dX6_generator_62 : decode cX6_generator 62 = .ok (.imul, 1) := by decide +kernel
theorem dX6_generator_63 : decode cX6_generator 63 = .ok (.iload_n 2, 1) := by decide +kernel
theorem dX6_generator_64 : decode cX6_generator 64 = .ok (.iload_n 3, 1) := by decide +kernel
theorem dX6_generator_65 : decode cX6_generator 65 = .ok (.imul, 1) := by decide +kernel
theorem dX6_generator_66 : decode cX6_generator 66 = .ok (.isub, 1) := by decide +kernel
theorem dX6_generator_67 : decode cX6_generator 67 = .ok (.invokevirtual 154, 3) := by decide +kernel
theorem dX6_generator_70 : decode cX6_generator 70 = .ok (.ifCond .ne 13, 3) := by decide +kernel
theorem dX6_generator_73 : decode cX6_generator 73 = .ok (.new 73, 3) := by decide +kernel
theorem dX6_generator_76 : decode cX6_generator 76 = .ok (.dup, 1) := by decide +kernel
theorem dX6_generator_77 : decode cX6_generator 77 = .ok (.ldc 168, 2) := by decide +kernel
theorem dX6_generator_79 : decode cX6_generator 79 = .ok (.invokespecial 77, 3) := by decide +kernel
theorem dX6_generator_82 : decode cX6_generator 82 = .ok (.athrow, 1) := by decide +kernel
theorem dX6_generator_83 : decode cX6_generator 83 = .ok (.aload_n 0, 1) := by decide +kernel
theorem dX6_generator_84 : decode cX6_generator 84 = .ok (.getfield 37, 3) := by decide +kernel
theorem dX6_generator_87 : decode cX6_generator 87 = .ok (.getfield 170, 3) := by decide +kernel
theorem dX6_generator_90 : decode cX6_generator 90 = .ok (.iconst 4, 1) := by decide +kernel
theorem dX6_generator_91 : decode cX6_generator 91 = .ok (.if_icmp .lt 13, 3) := by decide +kernel
theorem dX6_generator_94 : decode cX6_generator 94 = .ok (.new 102, 3) := by decide +kernel
theorem dX6_generator_97 : decode cX6_generator 97 = .ok (.dup, 1) := by decide +kernel
theorem dX6_generator_98 : decode cX6_generator 98 = .ok (.ldc 171, 2) := by decide +kernel
theorem dX6_generator_100 : decode cX6_generator 100 = .ok (.invokespecial 106, 3) := by decide +kernel
theorem dX6_generator_103 : decode cX6_generator 103 = .ok (.athrow, 1) := by decide +kernel
theorem dX6_generator_104 : decode cX6_generator 104 = .ok (.aload_n 0, 1) := by decide +kernel
theorem dX6_generator_105 : decode cX6_generator 105 = .ok (.getfield 37, 3) := by decide +kernel
theorem dX6_generator_108 : decode cX6_generator 108 = .ok (.iload_n 1, 1) := by decide +kernel
theorem dX6_generator_109 : decode cX6_generator 109 = .ok (.iload_n 2, 1) := by decide +kernel
theorem dX6_generator_110 : decode cX6_generator 110 = .ok (.iload_n 3, 1) := by decide +kernel
theorem dX6_generator_111 : decode cX6_generator 111 = .ok (.iload 4, 2) := by decide +kernel
theorem dX6_generator_113 : decode cX6_generator 113 = .ok (.aload_n 0, 1) := by decide +kernel
theorem dX6_generator_114 : decode cX6_generator 114 = .ok (.getfield 23, 3) := by decide +kernel
theorem dX6_generator_117 : decode cX6_generator 117 = .ok (.invokevirtual 173, 3) := by decide +kernel
theorem dX6_generator_120 : decode cX6_generator 120 = .ok (.aload_n 0, 1) := by decide +kernel
theorem dX6_generator_121 : decode cX6_generator 121 = .ok (.getfield 66, 3) := by decide +kernel
theorem dX6_generator_124 : decode cX6_generator 124 = .ok (.iconst 0, 1) := by decide +kernel
theorem dX6_generator_125 : decode cX6_generator 125 = .ok (.invokestatic 86, 3) := by decide +kernel
theorem dX6_generator_128 : decode cX6_generator 128 = .ok (.aload_n 0, 1) := by decide +kernel
theorem dX6_generator_129 : decode cX6_generator 129 = .ok (.getfield 37, 3) := by decide +kernel
theorem dX6_generator_132 : decode cX6_generator 132 = .ok (.getfield 170, 3) := by decide +kernel
theorem dX6_generator_135 : decode cX6_generator 135 = .ok (.iconst 1, 1) := by decide +kernel
theorem dX6_generator_136 : decode cX6_generator 136 = .ok (.isub, 1) := by decide +kernel
theorem dX6_generator_137 : decode cX6_generator 137 = .ok (.ireturn, 1) := by decide +kernel
theorem dX6_order_0 : decode cX6_order 0 = .ok (.aload_n 0, 1) := by decide +kernel
theorem dX6_order_1 : decode cX6_order 1 = .ok (.getfield 37, 3) := by decide +kernel
theorem dX6_order_4 : decode cX6_order 4 = .ok (.getfield 177, 3) := by decide +kernel
theorem dX6_order_7 : decode cX6_order 7 = .ok (.ireturn, 1) := by decide +kernel
set_option maxRecDepth 20000 in
theorem ggX6_changed_X6_checkForm : GoodIn wsX6_changed wsX6_checkForm := goodIn_ca (goodIn_r _ [11, 1, 2, 12, 34, 35, 36, 37, 38, 39, 40, 41, 42, 43, 44, 45] (by decide +kernel) (by decide +kernel)) (goodIn_sub (fun _ h => List.mem_cons_of_mem _ (List.mem_append_right _ h)) (by decide +kernel))
set_option maxRecDepth 20000 in
theorem gX6_changed_X6_checkForm : GoodIn wsX6_changed (wsV RX6 111 RX6 yX6_checkForm wsX6_checkForm) := goodIn_app (goodIn_of _ (by decide +kernel)) ggX6_changed_X6_checkForm
set_option maxRecDepth 20000 in
theorem ggX6_changed_X6_read : GoodIn wsX6_changed wsX6_read := goodIn_r _ [15] (by decide +kernel) (by decide +kernel)
set_option maxRecDepth 20000 in
theorem gX6_changed_X6_read : GoodIn wsX6_changed (va_wsS RX6 114 yX6_read wsX6_read) := goodIn_app (goodIn_of _ (by decide +kernel)) ggX6_changed_X6_read
set_option maxRecDepth 20000 in
theorem ggX6_changed_X4_image : GoodIn wsX6_changed wsX4_image := goodIn_r _ [20, 21, 22, 23, 19, 24, 25, 26, 27, 28, 29, 30, 31, 32, 33, 14, 10, 15, 46, 47, 48, 49, 50, 51, 52, 53] (by decide +kernel) (by decide +kernel)
set_option maxRecDepth 20000 in
theorem gX6_changed_X4_image : GoodIn wsX6_changed (wsV RX6 182 RX4 yX4_image wsX4_image) := goodIn_app (goodIn_of _ (by decide +kernel)) ggX6_changed_X4_image
theorem dX6_changed_0 : decode cX6_changed 0 = .ok (.aload_n 0, 1) := by decide +kernel
theorem dX6_changed_1 : decode cX6_changed 1 = .ok (.iload_n 1, 1) := by decide +kernel
theorem dX6_changed_2 : decode cX6_changed 2 = .ok (.invokevirtual 111, 3) := by decide +kernel
theorem dX6_changed_5 : decode cX6_changed 5 = .ok (.iload_n 2, 1) := by decide +kernel
theorem dX6_changed_6 : decode cX6_changed 6 = .ok (.ifCond .lt 14, 3) := by decide +kernel
theorem dX6_changed_9 : decode cX6_changed 9 = .ok (.iload_n 2, 1) := by decide +kernel
theorem dX6_changed_10 : decode cX6_changed 10 = .ok (.aload_n 0, 1) := by decide +kernel
theorem dX6_changed_11 : decode cX6_changed 11 = .ok (.getfield 37, 3) := by decide +kernel
theorem dX6_changed_14 : decode cX6_changed 14 = .ok (.getfield 170, 3) := by decide +kernel
theorem dX6_changed_17 : decode cX6_changed 17 = .ok (.if_icmp .lt 13, 3) := by decide +kernel
theorem dX6_changed_20 : decode cX6_changed 20 = .ok (.new 157, 3) := by decide +kernel
theorem dX6_changed_23 : decode cX6_changed 23 = .ok (.dup, 1) := by decide +kernel
theorem dX6_changed_24 : decode cX6_changed 24 = .ok (.ldc 180, 2) := by decide +kernel
theorem dX6_changed_26 : decode cX6_changed 26 = .ok (.invokespecial 161, 3) := by decide +kernel
theorem dX6_changed_29 : decode cX6_changed 29 = .ok (.athrow, 1) := by decide +kernel
theorem dX6_changed_30 : decode cX6_changed 30 = .ok (.aload_n 0, 1) := by decide +kernel
theorem dX6_changed_31 : decode cX6_changed 31 = .ok (.getfield 37, 3) := by decide +kernel
theorem dX6_changed_34 : decode cX6_changed 34 = .ok (.iload_n 2, 1) := by decide +kernel
theorem dX6_changed_35 : decode cX6_changed 35 = .ok (.aload_n 0, 1) := by decide +kernel
theorem dX6_changed_36 : decode cX6_changed 36 = .ok (.getfield 50, 3) := by decide +kernel
theorem dX6_changed_39 : decode cX6_changed 39 = .ok (.iload_n 1, 1) := by decide +kernel
theorem dX6_changed_40 : decode cX6_changed 40 = .ok (.invokestatic 114, 3) := by decide +kernel
theorem dX6_changed_43 : decode cX6_changed 43 = .ok (.aload_n 0, 1) := by decide +kernel
theorem dX6_changed_44 : decode cX6_changed 44 = .ok (.getfield 54, 3) := by decide +kernel
theorem dX6_changed_47 : decode cX6_changed 47 = .ok (.iload_n 1, 1) := by decide +kernel
theorem dX6_changed_48 : decode cX6_changed 48 = .ok (.invokestatic 114, 3) := by decide +kernel
theorem dX6_changed_51 : decode cX6_changed 51 = .ok (.invokevirtual 182, 3) := by decide +kernel
theorem dX6_changed_54 : decode cX6_changed 54 = .ok (.ireturn, 1) := by decide +kernel
set_option maxRecDepth 20000 in
theorem ggX6_average_X6_checkForm : GoodIn wsX6_average wsX6_checkForm := goodIn_ca (goodIn_r _ [12, 13, 14, 15, 101, 102, 103, 104, 105, 106, 107, 108, 109, 110, 111, 112] (by decide +kernel) (by decide +kernel)) (goodIn_sub (fun _ h => List.mem_cons_of_mem _ (List.mem_append_right _ h)) (by decide +kernel))
set_option maxRecDepth 20000 in
theorem gX6_average_X6_checkForm : GoodIn wsX6_average (wsV RX6 111 RX6 yX6_checkForm wsX6_checkForm) := goodIn_app (goodIn_of _ (by decide +kernel)) ggX6_average_X6_checkForm
set_option maxRecDepth 20000 in
theorem ggX6_average_X2_inverse : GoodIn wsX6_average wsX2_inverse := goodIn_r _ [20, 21, 22, 23, 24, 19, 25, 26, 27, 28, 29, 126] (by decide +kernel) (by decide +kernel)
set_option maxRecDepth 20000 in
theorem gX6_average_X2_inverse : GoodIn wsX6_average (wsV RX6 185 RX2 yX2_inverse wsX2_inverse) := goodIn_app (goodIn_of _ (by decide +kernel)) ggX6_average_X2_inverse
set_option maxRecDepth 20000 in
theorem ggX6_average_X6_read : GoodIn wsX6_average wsX6_read := goodIn_r _ [32] (by decide +kernel) (by decide +kernel)
set_option maxRecDepth 20000 in
theorem gX6_average_X6_read : GoodIn wsX6_average (va_wsS RX6 114 yX6_read wsX6_read) := goodIn_app (goodIn_of _ (by decide +kernel)) ggX6_average_X6_read
set_option maxRecDepth 20000 in
theorem ggX6_average_X5_alone : GoodIn wsX6_average wsX5_alone := goodIn_r _ [37, 38, 39, 40, 36, 41, 42, 43, 44, 45, 46, 47, 48, 49, 50, 51, 52, 53, 54, 55, 56, 57, 58, 59, 60, 61, 62, 63, 64, 65, 31, 11, 32, 66, 67, 68, 69, 70, 71, 72, 73, 74, 75, 76, 77, 78, 79, 80, 81, 82, 83, 84, 85, 119, 120, 121, 122, 123, 124, 125, 113, 114, 115, 116, 117, 118, 127, 128] (by decide +kernel) (by decide +kernel)
set_option maxRecDepth 20000 in
theorem gX6_average_X5_alone : GoodIn wsX6_average (wsV RX6 129 RX5 yX5_alone wsX5_alone) := goodIn_app (goodIn_of _ (by decide +kernel)) ggX6_average_X5_alone
set_option maxRecDepth 20000 in
theorem ggX6_average_X5_sumOfCodes : GoodIn wsX6_average wsX5_sumOfCodes := goodIn_r _ [89, 51, 53, 90, 52, 31, 11, 32, 91, 92, 93, 19, 94, 21, 119, 120, 121, 122, 123, 124, 125, 113, 114, 115, 116, 117, 118, 126] (by decide +kernel) (by decide +kernel)
set_option maxRecDepth 20000 in
theorem gX6_average_X5_sumOfCodes : GoodIn wsX6_average (wsV RX6 188 RX5 yX5_sumOfCodes wsX5_sumOfCodes) := goodIn_app (goodIn_of _ (by decide +kernel)) ggX6_average_X5_sumOfCodes
set_option maxRecDepth 20000 in
theorem ggX6_average_X2_rest : GoodIn wsX6_average wsX2_rest := goodIn_r _ [25, 21, 26, 27, 28, 29, 126] (by decide +kernel) (by decide +kernel)
set_option maxRecDepth 20000 in
theorem gX6_average_X2_rest : GoodIn wsX6_average (wsV RX6 154 RX2 yX2_rest wsX2_rest) := goodIn_app (goodIn_of _ (by decide +kernel)) ggX6_average_X2_rest
set_option maxRecDepth 20000 in
theorem ggX6_average_X2_multiple : GoodIn wsX6_average wsX2_multiple := goodIn_r _ [99, 100, 92, 93, 19, 94, 21, 126] (by decide +kernel) (by decide +kernel)
set_option maxRecDepth 20000 in
theorem gX6_average_X2_multiple : GoodIn wsX6_average (wsV RX6 191 RX2 yX2_multiple wsX2_multiple) := goodIn_app (goodIn_of _ (by decide +kernel)) ggX6_average_X2_multiple
theorem dX6_average_0 : decode cX6_average 0 = .ok (.aload_n 0, 1) := by decide +kernel
theorem dX6_average_1 : decode cX6_average 1 = .ok (.iload_n 1, 1) := by decide +kernel
theorem dX6_average_2 : decode cX6_average 2 = .ok (.invokevirtual 111, 3) := by decide +kernel
theorem dX6_average_5 : decode cX6_average 5 = .ok (.aload_n 0, 1) := by decide +kernel
theorem dX6_average_6 : decode cX6_average 6 = .ok (.getfield 14, 3) := by decide +kernel
theorem dX6_average_9 : decode cX6_average 9 = .ok (.aload_n 0, 1) := by decide +kernel
theorem dX6_average_10 : decode cX6_average 10 = .ok (.getfield 37, 3) := by decide +kernel
theorem dX6_average_13 : decode cX6_average 13 = .ok (.getfield 177, 3) := by decide +kernel
theorem dX6_average_16 : decode cX6_average 16 = .ok (.invokevirtual 185, 3) := by decide +kernel
theorem dX6_average_19 : decode cX6_average 19 = .ok (.istore_n 2, 1) := by decide +kernel
theorem dX6_average_20 : decode cX6_average 20 = .ok (.iload_n 2, 1) := by decide +kernel
theorem dX6_average_21 : decode cX6_average 21 = .ok (.ifCond .ne 5, 3) := by decide +kernel
theorem dX6_average_24 : decode cX6_average 24 = .ok (.iconst (-1), 1) := by decide +kernel
theorem dX6_average_25 : decode cX6_average 25 = .ok (.ireturn, 1) := by decide +kernel
theorem dX6_average_26 : decode cX6_average 26 = .ok (.aload_n 0, 1) := by decide +kernel
theorem dX6_average_27 : decode cX6_average 27 = .ok (.getfield 46, 3) := by decide +kernel
theorem dX6_average_30 : decode cX6_average 30 = .ok (.aload_n 0, 1) := by decide +kernel
theorem dX6_average_31 : decode cX6_average 31 = .ok (.getfield 50, 3) := by decide +kernel
theorem dX6_average_34 : decode cX6_average 34 = .ok (.iload_n 1, 1) := by decide +kernel
theorem dX6_average_35 : decode cX6_average 35 = .ok (.invokestatic 114, 3) := by decide +kernel
theorem dX6_average_38 : decode cX6_average 38 = .ok (.aload_n 0, 1) := by decide +kernel
theorem dX6_average_39 : decode cX6_average 39 = .ok (.getfield 54, 3) := by decide +kernel
theorem dX6_average_42 : decode cX6_average 42 = .ok (.iload_n 1, 1) := by decide +kernel
theorem dX6_average_43 : decode cX6_average 43 = .ok (.invokestatic 114, 3) := by decide +kernel
theorem dX6_average_46 : decode cX6_average 46 = .ok (.invokevirtual 129, 3) := by decide +kernel
theorem dX6_average_49 : decode cX6_average 49 = .ok (.aload_n 0, 1) := by decide +kernel
theorem dX6_average_50 : decode cX6_average 50 = .ok (.getfield 46, 3) := by decide +kernel
theorem dX6_average_53 : decode cX6_average 53 = .ok (.getfield 133, 3) := by decide +kernel
theorem dX6_average_56 : decode cX6_average 56 = .ok (.ifCond .le 21, 3) := by decide +kernel
theorem dX6_average_59 : decode cX6_average 59 = .ok (.aload_n 0, 1) := by decide +kernel
theorem dX6_average_60 : decode cX6_average 60 = .ok (.getfield 37, 3) := by decide +kernel
theorem dX6_average_63 : decode cX6_average 63 = .ok (.getfield 177, 3) := by decide +kernel
theorem dX6_average_66 : decode cX6_average 66 = .ok (.aload_n 0, 1) := by decide +kernel
theorem dX6_average_67 : decode cX6_average 67 = .ok (.getfield 46, 3) := by decide +kernel
theorem dX6_average_70 : decode cX6_average 70 = .ok (.getfield 133, 3) := by decide +kernel
theorem dX6_average_73 : decode cX6_average 73 = .ok (.idiv, 1) := by decide +kernel
theorem dX6_average_74 : decode cX6_average 74 = .ok (.goto 4, 3) := by decide +kernel
theorem dX6_average_77 : decode cX6_average 77 = .ok (.iconst 0, 1) := by decide +kernel
theorem dX6_average_78 : decode cX6_average 78 = .ok (.istore_n 3, 1) := by decide +kernel
theorem dX6_average_79 : decode cX6_average 79 = .ok (.aload_n 0, 1) := by decide +kernel
theorem dX6_average_80 : decode cX6_average 80 = .ok (.getfield 14, 3) := by decide +kernel
theorem dX6_average_83 : decode cX6_average 83 = .ok (.aload_n 0, 1) := by decide +kernel
theorem dX6_average_84 : decode cX6_average 84 = .ok (.getfield 46, 3) := by decide +kernel
theorem dX6_average_87 : decode cX6_average 87 = .ok (.invokevirtual 188, 3) := by decide +kernel
theorem dX6_average_90 : decode cX6_average 90 = .ok (.aload_n 0, 1) := by decide +kernel
theorem dX6_average_91 : decode cX6_average 91 = .ok (.getfield 14, 3) := by decide +kernel
theorem dX6_average_94 : decode cX6_average 94 = .ok (.iload_n 3, 1) := by decide +kernel
theorem dX6_average_95 : decode cX6_average 95 = .ok (.iload_n 2, 1) := by decide +kernel
theorem dX6_average_96 : decode cX6_average 96 = .ok (.imul, 1) := by decide +kernel
theorem dX6_average_97 : decode cX6_average 97 = .ok (.invokevirtual 154, 3) := by decide +kernel
theorem dX6_average_100 : decode cX6_average 100 = .ok (.invokevirtual 191, 3) := by decide +kernel
theorem dX6_average_103 : decode cX6_average 103 = .ok (.ireturn, 1) := by decide +kernel
set_option maxRecDepth 20000 in
theorem ggX6_dimension_X6_checkDegree : GoodIn wsX6_dimension wsX6_checkDegree := goodIn_ca (goodIn_r _ [8, 9, 10, 11, 12, 7, 13] (by decide +kernel) (by decide +kernel)) (goodIn_sub (fun _ h => List.mem_cons_of_mem _ (List.mem_append_right _ h)) (by decide +kernel))
set_option maxRecDepth 20000 in
theorem gX6_dimension_X6_checkDegree : GoodIn wsX6_dimension (va_wsS RX6 194 yX6_checkDegree wsX6_checkDegree) := goodIn_app (goodIn_of _ (by decide +kernel)) ggX6_dimension_X6_checkDegree
set_option maxRecDepth 20000 in
theorem ggX6_dimension_X1_begin : GoodIn wsX6_dimension wsX1_begin := goodIn_r _ [18, 19, 20, 131, 132, 133, 134] (by decide +kernel) (by decide +kernel)
set_option maxRecDepth 20000 in
theorem gX6_dimension_X1_begin : GoodIn wsX6_dimension (wsV RX6 197 RX1 yX1_begin wsX1_begin) := goodIn_app (goodIn_of _ (by decide +kernel)) ggX6_dimension_X1_begin
set_option maxRecDepth 20000 in
theorem ggX6_dimension_X4_generatorMatrix : GoodIn wsX6_dimension wsX4_generatorMatrix := goodIn_r _ [25, 26, 27, 28, 29, 30, 24, 31, 32, 33, 34, 35, 36, 37, 38, 39, 125, 126, 127, 128, 129, 130, 135, 136, 137] (by decide +kernel) (by decide +kernel)
set_option maxRecDepth 20000 in
theorem gX6_dimension_X4_generatorMatrix : GoodIn wsX6_dimension (wsV RX6 200 RX4 yX4_generatorMatrix wsX4_generatorMatrix) := goodIn_app (goodIn_of _ (by decide +kernel)) ggX6_dimension_X4_generatorMatrix
set_option maxRecDepth 20000 in
theorem ggX6_dimension_X0_fill : GoodIn wsX6_dimension wsX0_fill := goodIn_r _ [44, 45, 46, 47, 48, 49, 50, 37, 51, 52, 53, 54, 55, 39, 56, 57, 58, 59, 60, 61, 62, 63, 64, 7, 65, 66, 67, 68, 43, 69, 70, 71, 72, 73, 74, 75, 76, 138, 139, 140, 137] (by decide +kernel) (by decide +kernel)
set_option maxRecDepth 20000 in
theorem gX6_dimension_X0_fill : GoodIn wsX6_dimension (wsV RX6 203 RX0 yX0_fill wsX0_fill) := goodIn_app (goodIn_of _ (by decide +kernel)) ggX6_dimension_X0_fill
set_option maxRecDepth 20000 in
theorem ggX6_dimension_X1_askToLeave : GoodIn wsX6_dimension wsX1_askToLeave := goodIn_r _ [80, 19, 20, 81, 71, 72, 43, 73, 46, 74, 7, 75, 82, 83, 84, 17, 85, 86, 87, 88, 57, 58, 37, 59, 39, 60, 61, 62, 63, 64, 65, 131, 132, 133, 134, 138, 139, 140, 137] (by decide +kernel) (by decide +kernel)
set_option maxRecDepth 20000 in
theorem gX6_dimension_X1_askToLeave : GoodIn wsX6_dimension (wsV RX6 205 RX1 yX1_askToLeave wsX1_askToLeave) := goodIn_app (goodIn_of _ (by decide +kernel)) ggX6_dimension_X1_askToLeave
set_option maxRecDepth 20000 in
theorem ggX6_dimension_X1_freedom : GoodIn wsX6_dimension wsX1_freedom := goodIn_r _ [92, 19, 93, 94, 95, 17, 96, 20, 97, 98, 99, 100, 86, 74, 7, 75, 101, 102, 103, 104, 82, 83, 84, 85, 87, 88, 57, 58, 37, 59, 39, 60, 61, 62, 63, 64, 65, 105, 106, 107, 108, 109, 110, 111, 112, 56, 131, 132, 133, 134, 137] (by decide +kernel) (by decide +kernel)
set_option maxRecDepth 20000 in
theorem gX6_dimension_X1_freedom : GoodIn wsX6_dimension (wsV RX6 209 RX1 yX1_freedom wsX1_freedom) := goodIn_app (goodIn_of _ (by decide +kernel)) ggX6_dimension_X1_freedom
theorem dX6_dimension_0 : decode cX6_dimension 0 = .ok (.iload_n 1, 1) := by decide +kernel
theorem dX6_dimension_1 : decode cX6_dimension 1 = .ok (.invokestatic 194, 3) := by decide +kernel
theorem dX6_dimension_4 : decode cX6_dimension 4 = .ok (.aload_n 0, 1) := by decide +kernel
theorem dX6_dimension_5 : decode cX6_dimension 5 = .ok (.getfield 30, 3) := by decide +kernel
theorem dX6_dimension_8 : decode cX6_dimension 8 = .ok (.iload_n 1, 1) := by decide +kernel
theorem dX6_dimension_9 : decode cX6_dimension 9 = .ok (.iconst 1, 1) := by decide +kernel
theorem dX6_dimension_10 : decode cX6_dimension 10 = .ok (.iadd, 1) := by decide +kernel
theorem dX6_dimension_11 : decode cX6_dimension 11 = .ok (.invokevirtual 197, 3) := by decide +kernel
theorem dX6_dimension_14 : decode cX6_dimension 14 = .ok (.iconst 0, 1) := by decide +kernel
theorem dX6_dimension_15 : decode cX6_dimension 15 = .ok (.istore_n 2, 1) := by decide +kernel
theorem dX6_dimension_16 : decode cX6_dimension 16 = .ok (.iload_n 2, 1) := by decide +kernel
theorem dX6_dimension_17 : decode cX6_dimension 17 = .ok (.aload_n 0, 1) := by decide +kernel
theorem dX6_dimension_18 : decode cX6_dimension 18 = .ok (.getfield 37, 3) := by decide +kernel
theorem dX6_dimension_21 : decode cX6_dimension 21 = .ok (.getfield 170, 3) := by decide +kernel
theorem dX6_dimension_24 : decode cX6_dimension 24 = .ok (.if_icmp .ge 36, 3) := by decide +kernel
theorem dX6_dimension_27 : decode cX6_dimension 27 = .ok (.aload_n 0, 1) := by decide +kernel
theorem dX6_dimension_28 : decode cX6_dimension 28 = .ok (.getfield 23, 3) := by decide +kernel
theorem dX6_dimension_31 : decode cX6_dimension 31 = .ok (.aload_n 0, 1) := by decide +kernel
theorem dX6_dimension_32 : decode cX6_dimension 32 = .ok (.getfield 37, 3) := by decide +kernel
theorem dX6_dimension_35 : decode cX6_dimension 35 = .ok (.iload_n 2, 1) := by decide +kernel
theorem dX6_dimension_36 : decode cX6_dimension 36 = .ok (.invokevirtual 200, 3) := by decide +kernel
theorem dX6_dimension_39 : decode cX6_dimension 39 = .ok (.iload_n 1, 1) := by decide +kernel
theorem dX6_dimension_40 : decode cX6_dimension 40 = .ok (.invokevirtual 203, 3) := by decide +kernel
theorem dX6_dimension_43 : decode cX6_dimension 43 = .ok (.aload_n 0, 1) := by decide +kernel
theorem dX6_dimension_44 : decode cX6_dimension 44 = .ok (.getfield 30, 3) := by decide +kernel
theorem dX6_dimension_47 : decode cX6_dimension 47 = .ok (.aload_n 0, 1) := by decide +kernel
theorem dX6_dimension_48 : decode cX6_dimension 48 = .ok (.getfield 23, 3) := by decide +kernel
theorem dX6_dimension_51 : decode cX6_dimension 51 = .ok (.invokevirtual 205, 3) := by decide +kernel
theorem dX6_dimension_54 : decode cX6_dimension 54 = .ok (.iinc 2 1, 3) := by decide +kernel
theorem dX6_dimension_57 : decode cX6_dimension 57 = .ok (.goto (-41), 3) := by decide +kernel
theorem dX6_dimension_60 : decode cX6_dimension 60 = .ok (.aload_n 0, 1) := by decide +kernel
theorem dX6_dimension_61 : decode cX6_dimension 61 = .ok (.getfield 30, 3) := by decide +kernel
theorem dX6_dimension_64 : decode cX6_dimension 64 = .ok (.invokevirtual 209, 3) := by decide +kernel
theorem dX6_dimension_67 : decode cX6_dimension 67 = .ok (.ireturn, 1) := by decide +kernel
set_option maxRecDepth 20000 in
theorem ggX6_dimensionAnew_X6_checkDegree : GoodIn wsX6_dimensionAnew wsX6_checkDegree := goodIn_ca (goodIn_r _ [6, 7, 8, 9, 10, 5, 11] (by decide +kernel) (by decide +kernel)) (goodIn_sub (fun _ h => List.mem_cons_of_mem _ (List.mem_append_right _ h)) (by decide +kernel))
set_option maxRecDepth 20000 in
theorem gX6_dimensionAnew_X6_checkDegree : GoodIn wsX6_dimensionAnew (va_wsS RX6 194 yX6_checkDegree wsX6_checkDegree) := goodIn_app (goodIn_of _ (by decide +kernel)) ggX6_dimensionAnew_X6_checkDegree
set_option maxRecDepth 20000 in
theorem ggX6_dimensionAnew_X2_howMany : GoodIn wsX6_dimensionAnew wsX2_howMany := goodIn_r _ [16, 17, 59] (by decide +kernel) (by decide +kernel)
set_option maxRecDepth 20000 in
theorem gX6_dimensionAnew_X2_howMany : GoodIn wsX6_dimensionAnew (wsV RX6 96 RX2 yX2_howMany wsX2_howMany) := goodIn_app (goodIn_of _ (by decide +kernel)) ggX6_dimensionAnew_X2_howMany
set_option maxRecDepth 20000 in
theorem ggX6_dimensionAnew_X4_leaves : GoodIn wsX6_dimensionAnew wsX4_leaves := goodIn_r _ [22, 23, 24, 25, 26, 21, 27, 28, 29, 30, 31, 32, 33, 34, 35, 36, 37, 38, 39, 40, 5, 41, 60, 61, 62, 63, 64, 65, 66, 67] (by decide +kernel) (by decide +kernel)
set_option maxRecDepth 20000 in
theorem gX6_dimensionAnew_X4_leaves : GoodIn wsX6_dimensionAnew (wsV RX6 126 RX4 yX4_leaves wsX4_leaves) := goodIn_app (goodIn_of _ (by decide +kernel)) ggX6_dimensionAnew_X4_leaves
set_option maxRecDepth 20000 in
theorem ggX6_dimensionAnew_X2_exponent : GoodIn wsX6_dimensionAnew wsX2_exponent := goodIn_r _ [45, 46, 13, 14, 15, 16, 17, 59] (by decide +kernel) (by decide +kernel)
set_option maxRecDepth 20000 in
theorem gX6_dimensionAnew_X2_exponent : GoodIn wsX6_dimensionAnew (wsV RX6 212 RX2 yX2_exponent wsX2_exponent) := goodIn_app (goodIn_of _ (by decide +kernel)) ggX6_dimensionAnew_X2_exponent
theorem dX6_dimensionAnew_0 : decode cX6_dimensionAnew 0 = .ok (.iload_n 1, 1) := by decide +kernel
theorem dX6_dimensionAnew_1 : decode cX6_dimensionAnew 1 = .ok (.invokestatic 194, 3) := by decide +kernel
theorem dX6_dimensionAnew_4 : decode cX6_dimensionAnew 4 = .ok (.aload_n 0, 1) := by decide +kernel
theorem dX6_dimensionAnew_5 : decode cX6_dimensionAnew 5 = .ok (.getfield 14, 3) := by decide +kernel
theorem dX6_dimensionAnew_8 : decode cX6_dimensionAnew 8 = .ok (.iload_n 1, 1) := by decide +kernel
theorem dX6_dimensionAnew_9 : decode cX6_dimensionAnew 9 = .ok (.iconst 1, 1) := by decide +kernel
theorem dX6_dimensionAnew_10 : decode cX6_dimensionAnew 10 = .ok (.iadd, 1) := by decide +kernel
theorem dX6_dimensionAnew_11 : decode cX6_dimensionAnew 11 = .ok (.invokevirtual 96, 3) := by decide +kernel
theorem dX6_dimensionAnew_14 : decode cX6_dimensionAnew 14 = .ok (.istore_n 2, 1) := by decide +kernel
theorem dX6_dimensionAnew_15 : decode cX6_dimensionAnew 15 = .ok (.iconst 0, 1) := by decide +kernel
theorem dX6_dimensionAnew_16 : decode cX6_dimensionAnew 16 = .ok (.istore_n 3, 1) := by decide +kernel
theorem dX6_dimensionAnew_17 : decode cX6_dimensionAnew 17 = .ok (.iconst 0, 1) := by decide +kernel
theorem dX6_dimensionAnew_18 : decode cX6_dimensionAnew 18 = .ok (.istore 4, 2) := by decide +kernel
theorem dX6_dimensionAnew_20 : decode cX6_dimensionAnew 20 = .ok (.iload 4, 2) := by decide +kernel
theorem dX6_dimensionAnew_22 : decode cX6_dimensionAnew 22 = .ok (.iload_n 2, 1) := by decide +kernel
theorem dX6_dimensionAnew_23 : decode cX6_dimensionAnew 23 = .ok (.if_icmp .ge 25, 3) := by decide +kernel
theorem dX6_dimensionAnew_26 : decode cX6_dimensionAnew 26 = .ok (.aload_n 0, 1) := by decide +kernel
theorem dX6_dimensionAnew_27 : decode cX6_dimensionAnew 27 = .ok (.getfield 37, 3) := by decide +kernel
theorem dX6_dimensionAnew_30 : decode cX6_dimensionAnew 30 = .ok (.iload_n 1, 1) := by decide +kernel
theorem dX6_dimensionAnew_31 : decode cX6_dimensionAnew 31 = .ok (.iload 4, 2) := by decide +kernel
theorem dX6_dimensionAnew_33 : decode cX6_dimensionAnew 33 = .ok (.invokevirtual 126, 3) := by decide +kernel
theorem dX6_dimensionAnew_36 : decode cX6_dimensionAnew 36 = .ok (.ifCond .eq 6, 3) := by decide +kernel
theorem dX6_dimensionAnew_39 : decode cX6_dimensionAnew 39 = .ok (.iinc 3 1, 3) := by decide +kernel
theorem dX6_dimensionAnew_42 : decode cX6_dimensionAnew 42 = .ok (.iinc 4 1, 3) := by decide +kernel
theorem dX6_dimensionAnew_45 : decode cX6_dimensionAnew 45 = .ok (.goto (-25), 3) := by decide +kernel
theorem dX6_dimensionAnew_48 : decode cX6_dimensionAnew 48 = .ok (.aload_n 0, 1) := by decide +kernel
theorem dX6_dimensionAnew_49 : decode cX6_dimensionAnew 49 = .ok (.getfield 14, 3) := by decide +kernel
theorem dX6_dimensionAnew_52 : decode cX6_dimensionAnew 52 = .ok (.iload_n 3, 1) := by decide +kernel
theorem dX6_dimensionAnew_53 : decode cX6_dimensionAnew 53 = .ok (.invokevirtual 212, 3) := by decide +kernel
theorem dX6_dimensionAnew_56 : decode cX6_dimensionAnew 56 = .ok (.ireturn, 1) := by decide +kernel
set_option maxRecDepth 20000 in
theorem ggX6_transvectant_X6_checkForm : GoodIn wsX6_transvectant wsX6_checkForm := goodIn_ca (goodIn_r _ [12, 13, 14, 15, 72, 73, 74, 75, 76, 77, 78, 79, 80, 81, 82, 83] (by decide +kernel) (by decide +kernel)) (goodIn_sub (fun _ h => List.mem_cons_of_mem _ (List.mem_append_right _ h)) (by decide +kernel))
set_option maxRecDepth 20000 in
theorem gX6_transvectant_X6_checkForm : GoodIn wsX6_transvectant (wsV RX6 111 RX6 yX6_checkForm wsX6_checkForm) := goodIn_app (goodIn_of _ (by decide +kernel)) ggX6_transvectant_X6_checkForm
set_option maxRecDepth 20000 in
theorem ggX6_transvectant_X6_read : GoodIn wsX6_transvectant wsX6_read := goodIn_r _ [18] (by decide +kernel) (by decide +kernel)
set_option maxRecDepth 20000 in
theorem gX6_transvectant_X6_read : GoodIn wsX6_transvectant (va_wsS RX6 114 yX6_read wsX6_read) := goodIn_app (goodIn_of _ (by decide +kernel)) ggX6_transvectant_X6_read
set_option maxRecDepth 20000 in
theorem ggX6_transvectant_X6_isDegree : GoodIn wsX6_transvectant wsX6_isDegree := goodIn_r _ [21] (by decide +kernel) (by decide +kernel)
set_option maxRecDepth 20000 in
theorem gX6_transvectant_X6_isDegree : GoodIn wsX6_transvectant (va_wsS RX6 92 yX6_isDegree wsX6_isDegree) := goodIn_app (goodIn_of _ (by decide +kernel)) ggX6_transvectant_X6_isDegree
set_option maxRecDepth 20000 in
theorem ggX6_transvectant_X6_transvectantCode : GoodIn wsX6_transvectant wsX6_transvectantCode := goodIn_r _ [25, 3, 26, 27, 28, 29, 16, 17, 11, 18, 30, 31, 32, 33, 34, 35, 36, 37, 38, 39, 40, 41, 42, 43, 44, 45, 46, 47, 48, 49, 50, 51, 52, 53, 54, 55, 56, 57, 58, 59, 60, 61, 62, 63, 64, 65, 66, 67, 68, 69, 70, 71, 72, 73, 74, 75, 76, 77, 78, 79, 80, 81, 82, 83, 84] (by decide +kernel) (by decide +kernel)
set_option maxRecDepth 20000 in
theorem gX6_transvectant_X6_transvectantCode : GoodIn wsX6_transvectant (wsV RX6 222 RX6 yX6_transvectantCode wsX6_transvectantCode) := goodIn_app (goodIn_of _ (by decide +kernel)) ggX6_transvectant_X6_transvectantCode
theorem dX6_transvectant_0 : decode cX6_transvectant 0 = .ok (.aload_n 0, 1) := by decide +kernel
theorem dX6_transvectant_1 : decode cX6_transvectant 1 = .ok (.iload_n 1, 1) := by decide +kernel
theorem dX6_transvectant_2 : decode cX6_transvectant 2 = .ok (.invokevirtual 111, 3) := by decide +kernel
theorem dX6_transvectant_5 : decode cX6_transvectant 5 = .ok (.aload_n 0, 1) := by decide +kernel
theorem dX6_transvectant_6 : decode cX6_transvectant 6 = .ok (.iload_n 2, 1) := by decide +kernel
theorem dX6_transvectant_7 : decode cX6_transvectant 7 = .ok (.invokevirtual 111, 3) := by decide +kernel
theorem dX6_transvectant_10 : decode cX6_transvectant 10 = .ok (.aload_n 0, 1) := by decide +kernel
theorem dX6_transvectant_11 : decode cX6_transvectant 11 = .ok (.getfield 50, 3) := by decide +kernel
theorem dX6_transvectant_14 : decode cX6_transvectant 14 = .ok (.iload_n 1, 1) := by decide +kernel
theorem dX6_transvectant_15 : decode cX6_transvectant 15 = .ok (.invokestatic 114, 3) := by decide +kernel
theorem dX6_transvectant_18 : decode cX6_transvectant 18 = .ok (.aload_n 0, 1) := by decide +kernel
theorem dX6_transvectant_19 : decode cX6_transvectant 19 = .ok (.getfield 50, 3) := by decide +kernel
theorem dX6_transvectant_22 : decode cX6_transvectant 22 = .ok (.iload_n 2, 1) := by decide +kernel
theorem dX6_transvectant_23 : decode cX6_transvectant 23 = .ok (.invokestatic 114, 3) := by decide +kernel
theorem dX6_transvectant_26 : decode cX6_transvectant 26 = .ok (.invokestatic 215, 3) := by decide +kernel
theorem dX6_transvectant_29 : decode cX6_transvectant 29 = .ok (.istore 4, 2) := by decide +kernel
theorem dX6_transvectant_31 : decode cX6_transvectant 31 = .ok (.iload_n 3, 1) := by decide +kernel
theorem dX6_transvectant_32 : decode cX6_transvectant 32 = .ok (.ifCond .lt 36, 3) := by decide +kernel
theorem dX6_transvectant_35 : decode cX6_transvectant 35 = .ok (.iload_n 3, 1) := by decide +kernel
theorem dX6_transvectant_36 : decode cX6_transvectant 36 = .ok (.iload 4, 2) := by decide +kernel
theorem dX6_transvectant_38 : decode cX6_transvectant 38 = .ok (.if_icmp .gt 30, 3) := by decide +kernel
theorem dX6_transvectant_41 : decode cX6_transvectant 41 = .ok (.aload_n 0, 1) := by decide +kernel
theorem dX6_transvectant_42 : decode cX6_transvectant 42 = .ok (.getfield 50, 3) := by decide +kernel
theorem dX6_transvectant_45 : decode cX6_transvectant 45 = .ok (.iload_n 1, 1) := by decide +kernel
theorem dX6_transvectant_46 : decode cX6_transvectant 46 = .ok (.invokestatic 114, 3) := by decide +kernel
theorem dX6_transvectant_49 : decode cX6_transvectant 49 = .ok (.aload_n 0, 1) := by decide +kernel
theorem dX6_transvectant_50 : decode cX6_transvectant 50 = .ok (.getfield 50, 3) := by decide +kernel
theorem dX6_transvectant_53 : decode cX6_transvectant 53 = .ok (.iload_n 2, 1) := by decide +kernel
theorem dX6_transvectant_54 : decode cX6_transvectant 54 = .ok (.invokestatic 114, 3) := by decide +kernel
theorem dX6_transvectant_57 : decode cX6_transvectant 57 = .ok (.iadd, 1) := by decide +kernel
theorem dX6_transvectant_58 : decode cX6_transvectant 58 = .ok (.iconst 2, 1) := by decide +kernel
theorem dX6_transvectant_59 : decode cX6_transvectant 59 = .ok (.iload_n 3, 1) := by decide +kernel
theorem dX6_transvectant_60 : decode cX6_transvectant 60 = .ok (.imul, 1) := by decide +kernel
theorem dX6_transvectant_61 : decode cX6_transvectant 61 = .ok (.isub, 1) := by decide +kernel
theorem dX6_transvectant_62 : decode cX6_transvectant 62 = .ok (.invokestatic 92, 3) := by decide +kernel
theorem dX6_transvectant_65 : decode cX6_transvectant 65 = .ok (.ifCond .ne 13, 3) := by decide +kernel
theorem dX6_transvectant_68 : decode cX6_transvectant 68 = .ok (.new 73, 3) := by decide +kernel
theorem dX6_transvectant_71 : decode cX6_transvectant 71 = .ok (.dup, 1) := by decide +kernel
theorem dX6_transvectant_72 : decode cX6_transvectant 72 = .ok (.ldc 220, 2) := by decide +kernel
theorem dX6_transvectant_74 : decode cX6_transvectant 74 = .ok (.invokespecial 77, 3) := by decide +kernel
theorem dX6_transvectant_77 : decode cX6_transvectant 77 = .ok (.athrow, 1) := by decide +kernel
theorem dX6_transvectant_78 : decode cX6_transvectant 78 = .ok (.aload_n 0, 1) := by decide +kernel
theorem dX6_transvectant_79 : decode cX6_transvectant 79 = .ok (.iload_n 1, 1) := by decide +kernel
theorem dX6_transvectant_80 : decode cX6_transvectant 80 = .ok (.iload_n 2, 1) := by decide +kernel
theorem dX6_transvectant_81 : decode cX6_transvectant 81 = .ok (.iload_n 3, 1) := by decide +kernel
theorem dX6_transvectant_82 : decode cX6_transvectant 82 = .ok (.invokevirtual 222, 3) := by decide +kernel
theorem dX6_transvectant_85 : decode cX6_transvectant 85 = .ok (.ireturn, 1) := by decide +kernel
set_option maxRecDepth 20000 in
theorem ggX6_value_X6_checkForm : GoodIn wsX6_value wsX6_checkForm := goodIn_ca (goodIn_r _ [9, 10, 11, 12, 42, 43, 44, 45, 46, 47, 48, 49, 50, 51, 52, 53] (by decide +kernel) (by decide +kernel)) (goodIn_sub (fun _ h => List.mem_cons_of_mem _ (List.mem_append_right _ h)) (by decide +kernel))
set_option maxRecDepth 20000 in
theorem gX6_value_X6_checkForm : GoodIn wsX6_value (wsV RX6 111 RX6 yX6_checkForm wsX6_checkForm) := goodIn_app (goodIn_of _ (by decide +kernel)) ggX6_value_X6_checkForm
set_option maxRecDepth 20000 in
theorem ggX6_value_X6_read : GoodIn wsX6_value wsX6_read := goodIn_r _ [15] (by decide +kernel) (by decide +kernel)
set_option maxRecDepth 20000 in
theorem gX6_value_X6_read : GoodIn wsX6_value (va_wsS RX6 114 yX6_read wsX6_read) := goodIn_app (goodIn_of _ (by decide +kernel)) ggX6_value_X6_read
set_option maxRecDepth 20000 in
theorem ggX6_value_X6_countValues : GoodIn wsX6_value wsX6_countValues := goodIn_r _ [18] (by decide +kernel) (by decide +kernel)
set_option maxRecDepth 20000 in
theorem gX6_value_X6_countValues : GoodIn wsX6_value (va_wsS RX6 225 yX6_countValues wsX6_countValues) := goodIn_app (goodIn_of _ (by decide +kernel)) ggX6_value_X6_countValues
set_option maxRecDepth 20000 in
theorem ggX6_value_X6_valueOf : GoodIn wsX6_value wsX6_valueOf := goodIn_r _ [22, 23, 24, 25, 26, 27, 28, 29, 30, 31, 32, 33, 34, 35, 36, 37, 38, 39, 8, 40, 13, 14, 15, 41, 42, 43, 44, 45, 46, 47, 48, 49, 50, 51, 52, 53, 54] (by decide +kernel) (by decide +kernel)
set_option maxRecDepth 20000 in
theorem gX6_value_X6_valueOf : GoodIn wsX6_value (wsV RX6 230 RX6 yX6_valueOf wsX6_valueOf) := goodIn_app (goodIn_of _ (by decide +kernel)) ggX6_value_X6_valueOf
theorem dX6_value_0 : decode cX6_value 0 = .ok (.aload_n 0, 1) := by decide +kernel
theorem dX6_value_1 : decode cX6_value 1 = .ok (.iload_n 1, 1) := by decide +kernel
theorem dX6_value_2 : decode cX6_value 2 = .ok (.invokevirtual 111, 3) := by decide +kernel
theorem dX6_value_5 : decode cX6_value 5 = .ok (.aload_n 0, 1) := by decide +kernel
theorem dX6_value_6 : decode cX6_value 6 = .ok (.getfield 50, 3) := by decide +kernel
theorem dX6_value_9 : decode cX6_value 9 = .ok (.iload_n 1, 1) := by decide +kernel
theorem dX6_value_10 : decode cX6_value 10 = .ok (.invokestatic 114, 3) := by decide +kernel
theorem dX6_value_13 : decode cX6_value 13 = .ok (.istore_n 3, 1) := by decide +kernel
theorem dX6_value_14 : decode cX6_value 14 = .ok (.iload_n 2, 1) := by decide +kernel
theorem dX6_value_15 : decode cX6_value 15 = .ok (.ifCond .lt 11, 3) := by decide +kernel
theorem dX6_value_18 : decode cX6_value 18 = .ok (.iload_n 2, 1) := by decide +kernel
theorem dX6_value_19 : decode cX6_value 19 = .ok (.iload_n 3, 1) := by decide +kernel
theorem dX6_value_20 : decode cX6_value 20 = .ok (.invokestatic 225, 3) := by decide +kernel
theorem dX6_value_23 : decode cX6_value 23 = .ok (.if_icmp .lt 13, 3) := by decide +kernel
theorem dX6_value_26 : decode cX6_value 26 = .ok (.new 73, 3) := by decide +kernel
theorem dX6_value_29 : decode cX6_value 29 = .ok (.dup, 1) := by decide +kernel
theorem dX6_value_30 : decode cX6_value 30 = .ok (.ldc 228, 2) := by decide +kernel
theorem dX6_value_32 : decode cX6_value 32 = .ok (.invokespecial 77, 3) := by decide +kernel
theorem dX6_value_35 : decode cX6_value 35 = .ok (.athrow, 1) := by decide +kernel
theorem dX6_value_36 : decode cX6_value 36 = .ok (.aload_n 0, 1) := by decide +kernel
theorem dX6_value_37 : decode cX6_value 37 = .ok (.iload_n 3, 1) := by decide +kernel
theorem dX6_value_38 : decode cX6_value 38 = .ok (.aload_n 0, 1) := by decide +kernel
theorem dX6_value_39 : decode cX6_value 39 = .ok (.getfield 54, 3) := by decide +kernel
theorem dX6_value_42 : decode cX6_value 42 = .ok (.iload_n 1, 1) := by decide +kernel
theorem dX6_value_43 : decode cX6_value 43 = .ok (.invokestatic 114, 3) := by decide +kernel
theorem dX6_value_46 : decode cX6_value 46 = .ok (.iload_n 2, 1) := by decide +kernel
theorem dX6_value_47 : decode cX6_value 47 = .ok (.invokevirtual 230, 3) := by decide +kernel
theorem dX6_value_50 : decode cX6_value 50 = .ok (.ireturn, 1) := by decide +kernel
set_option maxRecDepth 20000 in
theorem ggX6_weighs_X6_read : GoodIn wsX6_weighs wsX6_read := goodIn_r _ [9] (by decide +kernel) (by decide +kernel)
set_option maxRecDepth 20000 in
theorem gX6_weighs_X6_read : GoodIn wsX6_weighs (va_wsS RX6 114 yX6_read wsX6_read) := goodIn_app (goodIn_of _ (by decide +kernel)) ggX6_weighs_X6_read
set_option maxRecDepth 20000 in
theorem ggX6_weighs_X6_weighsBy : GoodIn wsX6_weighs wsX6_weighsBy := goodIn_r _ [13, 14, 2, 15, 16, 17, 18, 19, 20, 21, 22, 23, 24, 25, 26, 27, 28, 29, 30, 31, 32, 33, 34, 35, 36, 37, 38, 39, 40, 41, 42, 43, 44, 45, 46, 47, 48, 49, 50, 51, 52, 53, 54, 55, 56, 57, 58, 59, 60, 61, 62, 63, 64, 7, 8, 9, 65, 66, 67, 68, 69, 70, 71, 72, 73, 74, 75, 76, 77, 78, 79, 80, 81, 82, 83, 84, 85, 6, 86, 87, 88, 89, 90, 91, 92, 93, 94, 95, 96, 97, 98, 99, 100, 101, 102, 103, 104, 105, 106, 107] (by decide +kernel) (by decide +kernel)
set_option maxRecDepth 20000 in
theorem gX6_weighs_X6_weighsBy : GoodIn wsX6_weighs (wsV RX6 233 RX6 yX6_weighsBy wsX6_weighsBy) := goodIn_app (goodIn_of _ (by decide +kernel)) ggX6_weighs_X6_weighsBy
theorem dX6_weighs_0 : decode cX6_weighs 0 = .ok (.iconst 0, 1) := by decide +kernel
theorem dX6_weighs_1 : decode cX6_weighs 1 = .ok (.istore_n 1, 1) := by decide +kernel
theorem dX6_weighs_2 : decode cX6_weighs 2 = .ok (.iload_n 1, 1) := by decide +kernel
theorem dX6_weighs_3 : decode cX6_weighs 3 = .ok (.aload_n 0, 1) := by decide +kernel
theorem dX6_weighs_4 : decode cX6_weighs 4 = .ok (.getfield 69, 3) := by decide +kernel
theorem dX6_weighs_7 : decode cX6_weighs 7 = .ok (.if_icmp .ge 54, 3) := by decide +kernel
theorem dX6_weighs_10 : decode cX6_weighs 10 = .ok (.iconst 0, 1) := by decide +kernel
theorem dX6_weighs_11 : decode cX6_weighs 11 = .ok (.istore_n 2, 1) := by decide +kernel
theorem dX6_weighs_12 : decode cX6_weighs 12 = .ok (.iload_n 2, 1) := by decide +kernel
theorem dX6_weighs_13 : decode cX6_weighs 13 = .ok (.aload_n 0, 1) := by decide +kernel
theorem dX6_weighs_14 : decode cX6_weighs 14 = .ok (.getfield 37, 3) := by decide +kernel
theorem dX6_weighs_17 : decode cX6_weighs 17 = .ok (.getfield 170, 3) := by decide +kernel
theorem dX6_weighs_20 : decode cX6_weighs 20 = .ok (.if_icmp .ge 35, 3) := by decide +kernel
theorem dX6_weighs_23 : decode cX6_weighs 23 = .ok (.aload_n 0, 1) := by decide +kernel
theorem dX6_weighs_24 : decode cX6_weighs 24 = .ok (.aload_n 0, 1) := by decide +kernel
theorem dX6_weighs_25 : decode cX6_weighs 25 = .ok (.getfield 50, 3) := by decide +kernel
theorem dX6_weighs_28 : decode cX6_weighs 28 = .ok (.iload_n 1, 1) := by decide +kernel
theorem dX6_weighs_29 : decode cX6_weighs 29 = .ok (.invokestatic 114, 3) := by decide +kernel
theorem dX6_weighs_32 : decode cX6_weighs 32 = .ok (.aload_n 0, 1) := by decide +kernel
theorem dX6_weighs_33 : decode cX6_weighs 33 = .ok (.getfield 54, 3) := by decide +kernel
theorem dX6_weighs_36 : decode cX6_weighs 36 = .ok (.iload_n 1, 1) := by decide +kernel
theorem dX6_weighs_37 : decode cX6_weighs 37 = .ok (.invokestatic 114, 3) := by decide +kernel
theorem dX6_weighs_40 : decode cX6_weighs 40 = .ok (.iload_n 2, 1) := by decide +kernel
theorem dX6_weighs_41 : decode cX6_weighs 41 = .ok (.invokevirtual 233, 3) := by decide +kernel
theorem dX6_weighs_44 : decode cX6_weighs 44 = .ok (.ifCond .ne 5, 3) := by decide +kernel
theorem dX6_weighs_47 : decode cX6_weighs 47 = .ok (.iconst 0, 1) := by decide +kernel
theorem dX6_weighs_48 : decode cX6_weighs 48 = .ok (.ireturn, 1) := by decide +kernel
theorem dX6_weighs_49 : decode cX6_weighs 49 = .ok (.iinc 2 1, 3) := by decide +kernel
theorem dX6_weighs_52 : decode cX6_weighs 52 = .ok (.goto (-40), 3) := by decide +kernel
theorem dX6_weighs_55 : decode cX6_weighs 55 = .ok (.iinc 1 1, 3) := by decide +kernel
theorem dX6_weighs_58 : decode cX6_weighs 58 = .ok (.goto (-56), 3) := by decide +kernel
theorem dX6_weighs_61 : decode cX6_weighs 61 = .ok (.iconst 1, 1) := by decide +kernel
theorem dX6_weighs_62 : decode cX6_weighs 62 = .ok (.ireturn, 1) := by decide +kernel
set_option maxRecDepth 20000 in
theorem ggX6_way_X6_checkForm : GoodIn wsX6_way wsX6_checkForm := goodIn_ca (goodIn_r _ [8, 9, 10, 11, 78, 79, 80, 81, 82, 83, 84, 85, 86, 87, 88, 89] (by decide +kernel) (by decide +kernel)) (goodIn_sub (fun _ h => List.mem_cons_of_mem _ (List.mem_append_left _ (List.mem_append_right _ h))) (by decide +kernel))
set_option maxRecDepth 20000 in
theorem gX6_way_X6_checkForm : GoodIn wsX6_way (wsV RX6 111 RX6 yX6_checkForm wsX6_checkForm) := goodIn_app (goodIn_of _ (by decide +kernel)) ggX6_way_X6_checkForm
set_option maxRecDepth 20000 in
theorem ggX6_way_X6_checkAlike : GoodIn wsX6_way wsX6_checkAlike := goodIn_ca (goodIn_r _ [15, 16, 17, 2, 18, 19, 7, 20, 78, 79, 80, 81, 82, 83, 84, 85, 86, 87, 88, 89] (by decide +kernel) (by decide +kernel)) (goodIn_sub (fun _ h => List.mem_cons_of_mem _ (List.mem_append_right _ h)) (by decide +kernel))
set_option maxRecDepth 20000 in
theorem gX6_way_X6_checkAlike : GoodIn wsX6_way (wsV RX6 237 RX6 yX6_checkAlike wsX6_checkAlike) := goodIn_app (goodIn_of _ (by decide +kernel)) ggX6_way_X6_checkAlike
set_option maxRecDepth 20000 in
theorem ggX6_way_X6_read : GoodIn wsX6_way wsX6_read := goodIn_r _ [20] (by decide +kernel) (by decide +kernel)
set_option maxRecDepth 20000 in
theorem gX6_way_X6_read : GoodIn wsX6_way (va_wsS RX6 114 yX6_read wsX6_read) := goodIn_app (goodIn_of _ (by decide +kernel)) ggX6_way_X6_read
set_option maxRecDepth 20000 in
theorem ggX6_way_X5_alone : GoodIn wsX6_way wsX5_alone := goodIn_r _ [25, 26, 27, 28, 24, 29, 30, 31, 32, 33, 34, 35, 36, 37, 38, 39, 40, 41, 42, 43, 44, 45, 46, 47, 48, 49, 50, 51, 52, 53, 19, 7, 20, 54, 55, 56, 57, 58, 59, 60, 61, 62, 63, 64, 65, 66, 67, 68, 69, 70, 71, 72, 73, 90, 91, 92, 93, 94, 95, 96, 97, 98, 99, 100, 101, 102, 103, 104] (by decide +kernel) (by decide +kernel)
set_option maxRecDepth 20000 in
theorem gX6_way_X5_alone : GoodIn wsX6_way (wsV RX6 129 RX5 yX5_alone wsX5_alone) := goodIn_app (goodIn_of _ (by decide +kernel)) ggX6_way_X5_alone
set_option maxRecDepth 20000 in
theorem ggX6_way_X5_stepsTo : GoodIn wsX6_way wsX5_stepsTo := goodIn_r _ [77, 43, 30, 50, 51, 52, 24, 53, 19, 7, 20, 90, 91, 92, 93, 94, 95, 96] (by decide +kernel) (by decide +kernel)
set_option maxRecDepth 20000 in
theorem gX6_way_X5_stepsTo : GoodIn wsX6_way (wsV RX6 240 RX5 yX5_stepsTo wsX5_stepsTo) := goodIn_app (goodIn_of _ (by decide +kernel)) ggX6_way_X5_stepsTo
theorem dX6_way_0 : decode cX6_way 0 = .ok (.aload_n 0, 1) := by decide +kernel
theorem dX6_way_1 : decode cX6_way 1 = .ok (.iload_n 1, 1) := by decide +kernel
theorem dX6_way_2 : decode cX6_way 2 = .ok (.invokevirtual 111, 3) := by decide +kernel
theorem dX6_way_5 : decode cX6_way 5 = .ok (.aload_n 0, 1) := by decide +kernel
theorem dX6_way_6 : decode cX6_way 6 = .ok (.iload_n 2, 1) := by decide +kernel
theorem dX6_way_7 : decode cX6_way 7 = .ok (.invokevirtual 111, 3) := by decide +kernel
theorem dX6_way_10 : decode cX6_way 10 = .ok (.aload_n 0, 1) := by decide +kernel
theorem dX6_way_11 : decode cX6_way 11 = .ok (.iload_n 1, 1) := by decide +kernel
theorem dX6_way_12 : decode cX6_way 12 = .ok (.iload_n 2, 1) := by decide +kernel
theorem dX6_way_13 : decode cX6_way 13 = .ok (.invokevirtual 237, 3) := by decide +kernel
theorem dX6_way_16 : decode cX6_way 16 = .ok (.aload_n 0, 1) := by decide +kernel
theorem dX6_way_17 : decode cX6_way 17 = .ok (.getfield 46, 3) := by decide +kernel
theorem dX6_way_20 : decode cX6_way 20 = .ok (.aload_n 0, 1) := by decide +kernel
theorem dX6_way_21 : decode cX6_way 21 = .ok (.getfield 50, 3) := by decide +kernel
theorem dX6_way_24 : decode cX6_way 24 = .ok (.iload_n 1, 1) := by decide +kernel
theorem dX6_way_25 : decode cX6_way 25 = .ok (.invokestatic 114, 3) := by decide +kernel
theorem dX6_way_28 : decode cX6_way 28 = .ok (.aload_n 0, 1) := by decide +kernel
theorem dX6_way_29 : decode cX6_way 29 = .ok (.getfield 54, 3) := by decide +kernel
theorem dX6_way_32 : decode cX6_way 32 = .ok (.iload_n 1, 1) := by decide +kernel
theorem dX6_way_33 : decode cX6_way 33 = .ok (.invokestatic 114, 3) := by decide +kernel
theorem dX6_way_36 : decode cX6_way 36 = .ok (.invokevirtual 129, 3) := by decide +kernel
theorem dX6_way_39 : decode cX6_way 39 = .ok (.aload_n 0, 1) := by decide +kernel
theorem dX6_way_40 : decode cX6_way 40 = .ok (.getfield 46, 3) := by decide +kernel
theorem dX6_way_43 : decode cX6_way 43 = .ok (.aload_n 0, 1) := by decide +kernel
theorem dX6_way_44 : decode cX6_way 44 = .ok (.getfield 54, 3) := by decide +kernel
theorem dX6_way_47 : decode cX6_way 47 = .ok (.iload_n 2, 1) := by decide +kernel
theorem dX6_way_48 : decode cX6_way 48 = .ok (.invokestatic 114, 3) := by decide +kernel
theorem dX6_way_51 : decode cX6_way 51 = .ok (.invokevirtual 240, 3) := by decide +kernel
theorem dX6_way_54 : decode cX6_way 54 = .ok (.ireturn, 1) := by decide +kernel
set_option maxRecDepth 20000 in
theorem ggX6_step_X6_checkForm : GoodIn wsX6_step wsX6_checkForm := goodIn_ca (goodIn_r _ [10, 11, 12, 13, 82, 83, 84, 85, 86, 87, 88, 89, 90, 91, 92, 93] (by decide +kernel) (by decide +kernel)) (goodIn_sub (fun _ h => List.mem_cons_of_mem _ (List.mem_append_right _ h)) (by decide +kernel))
set_option maxRecDepth 20000 in
theorem gX6_step_X6_checkForm : GoodIn wsX6_step (wsV RX6 111 RX6 yX6_checkForm wsX6_checkForm) := goodIn_app (goodIn_of _ (by decide +kernel)) ggX6_step_X6_checkForm
set_option maxRecDepth 20000 in
theorem ggX6_step_X6_checkAlike : GoodIn wsX6_step wsX6_checkAlike := goodIn_ca (goodIn_r _ [17, 1, 2, 4, 18, 19, 9, 20, 82, 83, 84, 85, 86, 87, 88, 89, 90, 91, 92, 93] (by decide +kernel) (by decide +kernel)) (goodIn_sub (fun _ h => List.mem_cons_of_mem _ (List.mem_append_left _ (List.mem_append_right _ h))) (by decide +kernel))
set_option maxRecDepth 20000 in
theorem gX6_step_X6_checkAlike : GoodIn wsX6_step (wsV RX6 237 RX6 yX6_checkAlike wsX6_checkAlike) := goodIn_app (goodIn_of _ (by decide +kernel)) ggX6_step_X6_checkAlike
set_option maxRecDepth 20000 in
theorem ggX6_step_X6_read : GoodIn wsX6_step wsX6_read := goodIn_r _ [20] (by decide +kernel) (by decide +kernel)
set_option maxRecDepth 20000 in
theorem gX6_step_X6_read : GoodIn wsX6_step (va_wsS RX6 114 yX6_read wsX6_read) := goodIn_app (goodIn_of _ (by decide +kernel)) ggX6_step_X6_read
set_option maxRecDepth 20000 in
theorem ggX6_step_X5_alone : GoodIn wsX6_step wsX5_alone := goodIn_r _ [25, 26, 27, 28, 24, 29, 30, 31, 32, 33, 34, 35, 36, 37, 38, 39, 40, 41, 42, 43, 44, 45, 46, 47, 48, 49, 50, 51, 52, 53, 19, 9, 20, 54, 55, 56, 57, 58, 59, 60, 61, 62, 63, 64, 65, 66, 67, 68, 69, 70, 71, 72, 73, 94, 95, 96, 97, 98, 99, 100, 101, 102, 103, 104, 105, 106, 107, 108] (by decide +kernel) (by decide +kernel)
set_option maxRecDepth 20000 in
theorem gX6_step_X5_alone : GoodIn wsX6_step (wsV RX6 129 RX5 yX5_alone wsX5_alone) := goodIn_app (goodIn_of _ (by decide +kernel)) ggX6_step_X5_alone
set_option maxRecDepth 20000 in
theorem ggX6_step_X5_stepOnWayTo : GoodIn wsX6_step wsX5_stepOnWayTo := goodIn_r _ [77, 30, 48, 49, 78, 79, 80, 24, 81, 43, 50, 51, 52, 53, 19, 9, 20, 94, 95, 96, 97, 98, 99, 100] (by decide +kernel) (by decide +kernel)
set_option maxRecDepth 20000 in
theorem gX6_step_X5_stepOnWayTo : GoodIn wsX6_step (wsV RX6 245 RX5 yX5_stepOnWayTo wsX5_stepOnWayTo) := goodIn_app (goodIn_of _ (by decide +kernel)) ggX6_step_X5_stepOnWayTo
theorem dX6_step_0 : decode cX6_step 0 = .ok (.aload_n 0, 1) := by decide +kernel
theorem dX6_step_1 : decode cX6_step 1 = .ok (.iload_n 1, 1) := by decide +kernel
theorem dX6_step_2 : decode cX6_step 2 = .ok (.invokevirtual 111, 3) := by decide +kernel
theorem dX6_step_5 : decode cX6_step 5 = .ok (.aload_n 0, 1) := by decide +kernel
theorem dX6_step_6 : decode cX6_step 6 = .ok (.iload_n 2, 1) := by decide +kernel
theorem dX6_step_7 : decode cX6_step 7 = .ok (.invokevirtual 111, 3) := by decide +kernel
theorem dX6_step_10 : decode cX6_step 10 = .ok (.aload_n 0, 1) := by decide +kernel
theorem dX6_step_11 : decode cX6_step 11 = .ok (.iload_n 1, 1) := by decide +kernel
theorem dX6_step_12 : decode cX6_step 12 = .ok (.iload_n 2, 1) := by decide +kernel
theorem dX6_step_13 : decode cX6_step 13 = .ok (.invokevirtual 237, 3) := by decide +kernel
theorem dX6_step_16 : decode cX6_step 16 = .ok (.iload_n 3, 1) := by decide +kernel
theorem dX6_step_17 : decode cX6_step 17 = .ok (.ifCond .ge 13, 3) := by decide +kernel
theorem dX6_step_20 : decode cX6_step 20 = .ok (.new 73, 3) := by decide +kernel
theorem dX6_step_23 : decode cX6_step 23 = .ok (.dup, 1) := by decide +kernel
theorem dX6_step_24 : decode cX6_step 24 = .ok (.ldc 243, 2) := by decide +kernel
theorem dX6_step_26 : decode cX6_step 26 = .ok (.invokespecial 77, 3) := by decide +kernel
theorem dX6_step_29 : decode cX6_step 29 = .ok (.athrow, 1) := by decide +kernel
theorem dX6_step_30 : decode cX6_step 30 = .ok (.aload_n 0, 1) := by decide +kernel
theorem dX6_step_31 : decode cX6_step 31 = .ok (.getfield 46, 3) := by decide +kernel
theorem dX6_step_34 : decode cX6_step 34 = .ok (.aload_n 0, 1) := by decide +kernel
theorem dX6_step_35 : decode cX6_step 35 = .ok (.getfield 50, 3) := by decide +kernel
theorem dX6_step_38 : decode cX6_step 38 = .ok (.iload_n 1, 1) := by decide +kernel
theorem dX6_step_39 : decode cX6_step 39 = .ok (.invokestatic 114, 3) := by decide +kernel
theorem dX6_step_42 : decode cX6_step 42 = .ok (.aload_n 0, 1) := by decide +kernel
theorem dX6_step_43 : decode cX6_step 43 = .ok (.getfield 54, 3) := by decide +kernel
theorem dX6_step_46 : decode cX6_step 46 = .ok (.iload_n 1, 1) := by decide +kernel
theorem dX6_step_47 : decode cX6_step 47 = .ok (.invokestatic 114, 3) := by decide +kernel
theorem dX6_step_50 : decode cX6_step 50 = .ok (.invokevirtual 129, 3) := by decide +kernel
theorem dX6_step_53 : decode cX6_step 53 = .ok (.aload_n 0, 1) := by decide +kernel
theorem dX6_step_54 : decode cX6_step 54 = .ok (.getfield 46, 3) := by decide +kernel
theorem dX6_step_57 : decode cX6_step 57 = .ok (.aload_n 0, 1) := by decide +kernel
theorem dX6_step_58 : decode cX6_step 58 = .ok (.getfield 54, 3) := by decide +kernel
theorem dX6_step_61 : decode cX6_step 61 = .ok (.iload_n 2, 1) := by decide +kernel
theorem dX6_step_62 : decode cX6_step 62 = .ok (.invokestatic 114, 3) := by decide +kernel
theorem dX6_step_65 : decode cX6_step 65 = .ok (.iload_n 3, 1) := by decide +kernel
theorem dX6_step_66 : decode cX6_step 66 = .ok (.invokevirtual 245, 3) := by decide +kernel
theorem dX6_step_69 : decode cX6_step 69 = .ok (.ireturn, 1) := by decide +kernel
set_option maxRecDepth 20000 in
theorem ggX6_orbits_X6_checkDegree : GoodIn wsX6_orbits wsX6_checkDegree := goodIn_ca (goodIn_r _ [6, 7, 8, 9, 10, 5, 11] (by decide +kernel) (by decide +kernel)) (goodIn_sub (fun _ h => List.mem_cons_of_mem _ (List.mem_append_right _ h)) (by decide +kernel))
set_option maxRecDepth 20000 in
theorem gX6_orbits_X6_checkDegree : GoodIn wsX6_orbits (va_wsS RX6 194 yX6_checkDegree wsX6_checkDegree) := goodIn_app (goodIn_of _ (by decide +kernel)) ggX6_orbits_X6_checkDegree
set_option maxRecDepth 20000 in
theorem ggX6_orbits_X2_howMany : GoodIn wsX6_orbits wsX2_howMany := goodIn_r _ [16, 17, 82] (by decide +kernel) (by decide +kernel)
set_option maxRecDepth 20000 in
theorem gX6_orbits_X2_howMany : GoodIn wsX6_orbits (wsV RX6 96 RX2 yX2_howMany wsX2_howMany) := goodIn_app (goodIn_of _ (by decide +kernel)) ggX6_orbits_X2_howMany
set_option maxRecDepth 20000 in
theorem ggX6_orbits_X5_clear : GoodIn wsX6_orbits wsX5_clear := goodIn_r _ [22, 23, 24, 25, 26, 27, 83, 84, 85, 86, 87, 88, 89] (by decide +kernel) (by decide +kernel)
set_option maxRecDepth 20000 in
theorem gX6_orbits_X5_clear : GoodIn wsX6_orbits (wsV RX6 248 RX5 yX5_clear wsX5_clear) := goodIn_app (goodIn_of _ (by decide +kernel)) ggX6_orbits_X5_clear
set_option maxRecDepth 20000 in
theorem ggX6_orbits_X5_met : GoodIn wsX6_orbits wsX5_met := goodIn_r _ [31, 23, 32, 5, 33, 83, 84, 85, 86, 87, 88, 89] (by decide +kernel) (by decide +kernel)
set_option maxRecDepth 20000 in
theorem gX6_orbits_X5_met : GoodIn wsX6_orbits (wsV RX6 251 RX5 yX5_met wsX5_met) := goodIn_app (goodIn_of _ (by decide +kernel)) ggX6_orbits_X5_met
set_option maxRecDepth 20000 in
theorem ggX6_orbits_X5_go : GoodIn wsX6_orbits wsX5_go := goodIn_r _ [37, 38, 39, 40, 41, 42, 43, 44, 45, 21, 46, 47, 48, 23, 49, 29, 30, 31, 32, 5, 33, 50, 51, 52, 53, 54, 55, 56, 57, 58, 59, 60, 61, 62, 63, 64, 65, 66, 67, 68, 69, 83, 84, 85, 86, 87, 88, 89, 90, 91, 92, 93, 94, 95, 96, 97] (by decide +kernel) (by decide +kernel)
set_option maxRecDepth 20000 in
theorem gX6_orbits_X5_go : GoodIn wsX6_orbits (wsV RX6 254 RX5 yX5_go wsX5_go) := goodIn_app (goodIn_of _ (by decide +kernel)) ggX6_orbits_X5_go
theorem dX6_orbits_0 : decode cX6_orbits 0 = .ok (.iload_n 1, 1) := by decide +kernel
theorem dX6_orbits_1 : decode cX6_orbits 1 = .ok (.invokestatic 194, 3) := by decide +kernel
theorem dX6_orbits_4 : decode cX6_orbits 4 = .ok (.aload_n 0, 1) := by decide +kernel
theorem dX6_orbits_5 : decode cX6_orbits 5 = .ok (.getfield 14, 3) := by decide +kernel
theorem dX6_orbits_8 : decode cX6_orbits 8 = .ok (.iload_n 1, 1) := by decide +kernel
theorem dX6_orbits_9 : decode cX6_orbits 9 = .ok (.iconst 1, 1) := by decide +kernel
theorem dX6_orbits_10 : decode cX6_orbits 10 = .ok (.iadd, 1) := by decide +kernel
theorem dX6_orbits_11 : decode cX6_orbits 11 = .ok (.invokevirtual 96, 3) := by decide +kernel
theorem dX6_orbits_14 : decode cX6_orbits 14 = .ok (.istore_n 2, 1) := by decide +kernel
theorem dX6_orbits_15 : decode cX6_orbits 15 = .ok (.iconst 0, 1) := by decide +kernel
theorem dX6_orbits_16 : decode cX6_orbits 16 = .ok (.istore_n 3, 1) := by decide +kernel
theorem dX6_orbits_17 : decode cX6_orbits 17 = .ok (.aload_n 0, 1) := by decide +kernel
theorem dX6_orbits_18 : decode cX6_orbits 18 = .ok (.getfield 46, 3) := by decide +kernel
theorem dX6_orbits_21 : decode cX6_orbits 21 = .ok (.invokevirtual 248, 3) := by decide +kernel
theorem dX6_orbits_24 : decode cX6_orbits 24 = .ok (.iconst 0, 1) := by decide +kernel
theorem dX6_orbits_25 : decode cX6_orbits 25 = .ok (.istore 4, 2) := by decide +kernel
theorem dX6_orbits_27 : decode cX6_orbits 27 = .ok (.iload 4, 2) := by decide +kernel
theorem dX6_orbits_29 : decode cX6_orbits 29 = .ok (.iload_n 2, 1) := by decide +kernel
theorem dX6_orbits_30 : decode cX6_orbits 30 = .ok (.if_icmp .ge 34, 3) := by decide +kernel
theorem dX6_orbits_33 : decode cX6_orbits 33 = .ok (.aload_n 0, 1) := by decide +kernel
theorem dX6_orbits_34 : decode cX6_orbits 34 = .ok (.getfield 46, 3) := by decide +kernel
theorem dX6_orbits_37 : decode cX6_orbits 37 = .ok (.iload 4, 2) := by decide +kernel
theorem dX6_orbits_39 : decode cX6_orbits 39 = .ok (.invokevirtual 251, 3) := by decide +kernel
theorem dX6_orbits_42 : decode cX6_orbits 42 = .ok (.ifCond .ne 16, 3) := by decide +kernel
theorem dX6_orbits_45 : decode cX6_orbits 45 = .ok (.aload_n 0, 1) := by decide +kernel
theorem dX6_orbits_46 : decode cX6_orbits 46 = .ok (.getfield 46, 3) := by decide +kernel
theorem dX6_orbits_49 : decode cX6_orbits 49 = .ok (.iload_n 1, 1) := by decide +kernel
theorem dX6_orbits_50 : decode cX6_orbits 50 = .ok (.iload 4, 2) := by decide +kernel
theorem dX6_orbits_52 : decode cX6_orbits 52 = .ok (.invokevirtual 254, 3) := by decide +kernel
theorem dX6_orbits_55 : decode cX6_orbits 55 = .ok (.iinc 3 1, 3) := by decide +kernel
theorem dX6_orbits_58 : decode cX6_orbits 58 = .ok (.iinc 4 1, 3) := by decide +kernel
theorem dX6_orbits_61 : decode cX6_orbits 61 = .ok (.goto (-34), 3) := by decide +kernel
theorem dX6_orbits_64 : decode cX6_orbits 64 = .ok (.iload_n 3, 1) := by decide +kernel
theorem dX6_orbits_65 : decode cX6_orbits 65 = .ok (.ireturn, 1) := by decide +kernel
set_option maxRecDepth 20000 in
theorem ggX6_orbitsAnew_X6_checkDegree : GoodIn wsX6_orbitsAnew wsX6_checkDegree := goodIn_ca (goodIn_r _ [7, 8, 9, 10, 11, 6, 12] (by decide +kernel) (by decide +kernel)) (goodIn_sub (fun _ h => List.mem_cons_of_mem _ (List.mem_append_right _ h)) (by decide +kernel))
set_option maxRecDepth 20000 in
theorem gX6_orbitsAnew_X6_checkDegree : GoodIn wsX6_orbitsAnew (va_wsS RX6 194 yX6_checkDegree wsX6_checkDegree) := goodIn_app (goodIn_of _ (by decide +kernel)) ggX6_orbitsAnew_X6_checkDegree
set_option maxRecDepth 20000 in
theorem ggX6_orbitsAnew_X6_read : GoodIn wsX6_orbitsAnew wsX6_read := goodIn_r _ [15] (by decide +kernel) (by decide +kernel)
set_option maxRecDepth 20000 in
theorem gX6_orbitsAnew_X6_read : GoodIn wsX6_orbitsAnew (va_wsS RX6 114 yX6_read wsX6_read) := goodIn_app (goodIn_of _ (by decide +kernel)) ggX6_orbitsAnew_X6_read
set_option maxRecDepth 20000 in
theorem ggX6_orbitsAnew_X6_countLeftForms : GoodIn wsX6_orbitsAnew wsX6_countLeftForms := goodIn_r _ [19, 2, 3, 20, 21, 22, 23, 24, 25, 26, 27, 28, 14, 6, 15, 29, 30, 31, 32, 33, 34, 35, 36, 37, 38, 39, 40, 41, 42, 43, 44, 45, 46, 47, 48, 49, 50, 51, 52, 53, 54, 55, 56, 57, 58, 59, 60, 61, 62, 63, 64, 65, 66, 67, 68, 69, 70, 71, 72, 73, 74, 75, 76, 77, 78, 79, 80, 81, 82, 83, 84, 85, 86, 87, 88, 89, 90, 91, 92, 93, 94, 95, 96, 97, 98, 99, 100, 101, 102, 103, 104, 105, 106, 107, 108, 109, 111, 112, 113, 114, 115, 116, 117, 118, 119, 120, 121, 122, 123, 124, 125, 126, 127, 128, 129, 130, 131, 132, 133, 134, 135, 136] (by decide +kernel) (by decide +kernel)
set_option maxRecDepth 20000 in
theorem gX6_orbitsAnew_X6_countLeftForms : GoodIn wsX6_orbitsAnew (wsV RX6 257 RX6 yX6_countLeftForms wsX6_countLeftForms) := goodIn_app (goodIn_of _ (by decide +kernel)) ggX6_orbitsAnew_X6_countLeftForms
set_option maxRecDepth 20000 in
theorem ggX6_orbitsAnew_X6_write : GoodIn wsX6_orbitsAnew wsX6_write := goodIn_r _ [56] (by decide +kernel) (by decide +kernel)
set_option maxRecDepth 20000 in
theorem gX6_orbitsAnew_X6_write : GoodIn wsX6_orbitsAnew (va_wsS RX6 107 yX6_write wsX6_write) := goodIn_app (goodIn_of _ (by decide +kernel)) ggX6_orbitsAnew_X6_write
theorem dX6_orbitsAnew_0 : decode cX6_orbitsAnew 0 = .ok (.iload_n 1, 1) := by decide +kernel
theorem dX6_orbitsAnew_1 : decode cX6_orbitsAnew 1 = .ok (.invokestatic 194, 3) := by decide +kernel
theorem dX6_orbitsAnew_4 : decode cX6_orbitsAnew 4 = .ok (.aload_n 0, 1) := by decide +kernel
theorem dX6_orbitsAnew_5 : decode cX6_orbitsAnew 5 = .ok (.getfield 66, 3) := by decide +kernel
theorem dX6_orbitsAnew_8 : decode cX6_orbitsAnew 8 = .ok (.iload_n 1, 1) := by decide +kernel
theorem dX6_orbitsAnew_9 : decode cX6_orbitsAnew 9 = .ok (.invokestatic 114, 3) := by decide +kernel
theorem dX6_orbitsAnew_12 : decode cX6_orbitsAnew 12 = .ok (.ifCond .ne 16, 3) := by decide +kernel
theorem dX6_orbitsAnew_15 : decode cX6_orbitsAnew 15 = .ok (.aload_n 0, 1) := by decide +kernel
