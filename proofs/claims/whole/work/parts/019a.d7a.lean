theorem dX7_init_0 : decode cX7_init 0 = .ok (.aload_n 0, 1) := by decide +kernel
theorem dX7_init_1 : decode cX7_init 1 = .ok (.invokespecial 1, 3) := by decide +kernel
theorem dX7_init_4 : decode cX7_init 4 = .ok (.aload_n 0, 1) := by decide +kernel
theorem dX7_init_5 : decode cX7_init 5 = .ok (.iconst 5, 1) := by decide +kernel
theorem dX7_init_6 : decode cX7_init 6 = .ok (.putfield 7, 3) := by decide +kernel
theorem dX7_init_9 : decode cX7_init 9 = .ok (.aload_n 0, 1) := by decide +kernel
theorem dX7_init_10 : decode cX7_init 10 = .ok (.bipush 20, 2) := by decide +kernel
theorem dX7_init_12 : decode cX7_init 12 = .ok (.newarray .int, 2) := by decide +kernel
theorem dX7_init_14 : decode cX7_init 14 = .ok (.putfield 13, 3) := by decide +kernel
theorem dX7_init_17 : decode cX7_init 17 = .ok (.aload_n 0, 1) := by decide +kernel
theorem dX7_init_18 : decode cX7_init 18 = .ok (.bipush 20, 2) := by decide +kernel
theorem dX7_init_20 : decode cX7_init 20 = .ok (.newarray .int, 2) := by decide +kernel
theorem dX7_init_22 : decode cX7_init 22 = .ok (.putfield 17, 3) := by decide +kernel
theorem dX7_init_25 : decode cX7_init 25 = .ok (.aload_n 0, 1) := by decide +kernel
theorem dX7_init_26 : decode cX7_init 26 = .ok (.bipush 16, 2) := by decide +kernel
theorem dX7_init_28 : decode cX7_init 28 = .ok (.newarray .int, 2) := by decide +kernel
theorem dX7_init_30 : decode cX7_init 30 = .ok (.putfield 20, 3) := by decide +kernel
theorem dX7_init_33 : decode cX7_init 33 = .ok (.aload_n 0, 1) := by decide +kernel
theorem dX7_init_34 : decode cX7_init 34 = .ok (.sipush 625, 3) := by decide +kernel
theorem dX7_init_37 : decode cX7_init 37 = .ok (.newarray .boolean, 2) := by decide +kernel
theorem dX7_init_39 : decode cX7_init 39 = .ok (.putfield 23, 3) := by decide +kernel
theorem dX7_init_42 : decode cX7_init 42 = .ok (.aload_n 0, 1) := by decide +kernel
theorem dX7_init_43 : decode cX7_init 43 = .ok (.sipush 480, 3) := by decide +kernel
theorem dX7_init_46 : decode cX7_init 46 = .ok (.newarray .int, 2) := by decide +kernel
theorem dX7_init_48 : decode cX7_init 48 = .ok (.putfield 27, 3) := by decide +kernel
theorem dX7_init_51 : decode cX7_init 51 = .ok (.aload_n 0, 1) := by decide +kernel
theorem dX7_init_52 : decode cX7_init 52 = .ok (.bipush 25, 2) := by decide +kernel
theorem dX7_init_54 : decode cX7_init 54 = .ok (.newarray .int, 2) := by decide +kernel
theorem dX7_init_56 : decode cX7_init 56 = .ok (.putfield 30, 3) := by decide +kernel
theorem dX7_init_59 : decode cX7_init 59 = .ok (.aload_n 0, 1) := by decide +kernel
theorem dX7_init_60 : decode cX7_init 60 = .ok (.bipush 100, 2) := by decide +kernel
theorem dX7_init_62 : decode cX7_init 62 = .ok (.newarray .int, 2) := by decide +kernel
theorem dX7_init_64 : decode cX7_init 64 = .ok (.putfield 33, 3) := by decide +kernel
theorem dX7_init_67 : decode cX7_init 67 = .ok (.aload_n 0, 1) := by decide +kernel
theorem dX7_init_68 : decode cX7_init 68 = .ok (.iconst 5, 1) := by decide +kernel
theorem dX7_init_69 : decode cX7_init 69 = .ok (.newarray .int, 2) := by decide +kernel
theorem dX7_init_71 : decode cX7_init 71 = .ok (.putfield 36, 3) := by decide +kernel
theorem dX7_init_74 : decode cX7_init 74 = .ok (.aload_n 0, 1) := by decide +kernel
theorem dX7_init_75 : decode cX7_init 75 = .ok (.iconst 5, 1) := by decide +kernel
theorem dX7_init_76 : decode cX7_init 76 = .ok (.newarray .int, 2) := by decide +kernel
theorem dX7_init_78 : decode cX7_init 78 = .ok (.putfield 39, 3) := by decide +kernel
theorem dX7_init_81 : decode cX7_init 81 = .ok (.aload_n 0, 1) := by decide +kernel
theorem dX7_init_82 : decode cX7_init 82 = .ok (.bipush 9, 2) := by decide +kernel
theorem dX7_init_84 : decode cX7_init 84 = .ok (.newarray .int, 2) := by decide +kernel
theorem dX7_init_86 : decode cX7_init 86 = .ok (.putfield 42, 3) := by decide +kernel
theorem dX7_init_89 : decode cX7_init 89 = .ok (.aload_n 0, 1) := by decide +kernel
theorem dX7_init_90 : decode cX7_init 90 = .ok (.iconst 5, 1) := by decide +kernel
theorem dX7_init_91 : decode cX7_init 91 = .ok (.newarray .int, 2) := by decide +kernel
theorem dX7_init_93 : decode cX7_init 93 = .ok (.putfield 45, 3) := by decide +kernel
theorem dX7_init_96 : decode cX7_init 96 = .ok (.aload_n 0, 1) := by decide +kernel
theorem dX7_init_97 : decode cX7_init 97 = .ok (.sipush 3125, 3) := by decide +kernel
theorem dX7_init_100 : decode cX7_init 100 = .ok (.newarray .int, 2) := by decide +kernel
theorem dX7_init_102 : decode cX7_init 102 = .ok (.putfield 48, 3) := by decide +kernel
theorem dX7_init_105 : decode cX7_init 105 = .ok (.aload_n 0, 1) := by decide +kernel
theorem dX7_init_106 : decode cX7_init 106 = .ok (.sipush 3125, 3) := by decide +kernel
theorem dX7_init_109 : decode cX7_init 109 = .ok (.newarray .int, 2) := by decide +kernel
theorem dX7_init_111 : decode cX7_init 111 = .ok (.putfield 51, 3) := by decide +kernel
theorem dX7_init_114 : decode cX7_init 114 = .ok (.aload_n 0, 1) := by decide +kernel
theorem dX7_init_115 : decode cX7_init 115 = .ok (.sipush 3125, 3) := by decide +kernel
theorem dX7_init_118 : decode cX7_init 118 = .ok (.newarray .int, 2) := by decide +kernel
theorem dX7_init_120 : decode cX7_init 120 = .ok (.putfield 54, 3) := by decide +kernel
theorem dX7_init_123 : decode cX7_init 123 = .ok (.aload_n 0, 1) := by decide +kernel
theorem dX7_init_124 : decode cX7_init 124 = .ok (.sipush 3125, 3) := by decide +kernel
theorem dX7_init_127 : decode cX7_init 127 = .ok (.newarray .int, 2) := by decide +kernel
theorem dX7_init_129 : decode cX7_init 129 = .ok (.putfield 57, 3) := by decide +kernel
theorem dX7_init_132 : decode cX7_init 132 = .ok (.aload_n 0, 1) := by decide +kernel
theorem dX7_init_133 : decode cX7_init 133 = .ok (.iconst 5, 1) := by decide +kernel
theorem dX7_init_134 : decode cX7_init 134 = .ok (.putfield 7, 3) := by decide +kernel
theorem dX7_init_137 : decode cX7_init 137 = .ok (.return_, 1) := by decide +kernel
theorem dX7_thrown_0 : decode cX7_thrown 0 = .ok (.aload_n 0, 1) := by decide +kernel
theorem dX7_thrown_1 : decode cX7_thrown 1 = .ok (.getfield 60, 3) := by decide +kernel
theorem dX7_thrown_4 : decode cX7_thrown 4 = .ok (.ireturn, 1) := by decide +kernel
theorem dX7_holds_0 : decode cX7_holds 0 = .ok (.aload_n 0, 1) := by decide +kernel
theorem dX7_holds_1 : decode cX7_holds 1 = .ok (.iload_n 1, 1) := by decide +kernel
theorem dX7_holds_2 : decode cX7_holds 2 = .ok (.putfield 60, 3) := by decide +kernel
theorem dX7_holds_5 : decode cX7_holds 5 = .ok (.iload_n 1, 1) := by decide +kernel
theorem dX7_holds_6 : decode cX7_holds 6 = .ok (.ifCond .ne 7, 3) := by decide +kernel
theorem dX7_holds_9 : decode cX7_holds 9 = .ok (.iconst 1, 1) := by decide +kernel
theorem dX7_holds_10 : decode cX7_holds 10 = .ok (.goto 4, 3) := by decide +kernel
theorem dX7_holds_13 : decode cX7_holds 13 = .ok (.iconst 0, 1) := by decide +kernel
theorem dX7_holds_14 : decode cX7_holds 14 = .ok (.ireturn, 1) := by decide +kernel
theorem dX7_isIn_0 : decode cX7_isIn 0 = .ok (.iload_n 0, 1) := by decide +kernel
theorem dX7_isIn_1 : decode cX7_isIn 1 = .ok (.iload_n 1, 1) := by decide +kernel
theorem dX7_isIn_2 : decode cX7_isIn 2 = .ok (.if_icmp .lt 12, 3) := by decide +kernel
theorem dX7_isIn_5 : decode cX7_isIn 5 = .ok (.iload_n 0, 1) := by decide +kernel
theorem dX7_isIn_6 : decode cX7_isIn 6 = .ok (.iload_n 2, 1) := by decide +kernel
theorem dX7_isIn_7 : decode cX7_isIn 7 = .ok (.if_icmp .gt 7, 3) := by decide +kernel
theorem dX7_isIn_10 : decode cX7_isIn 10 = .ok (.iconst 1, 1) := by decide +kernel
theorem dX7_isIn_11 : decode cX7_isIn 11 = .ok (.goto 4, 3) := by decide +kernel
theorem dX7_isIn_14 : decode cX7_isIn 14 = .ok (.iconst 0, 1) := by decide +kernel
theorem dX7_isIn_15 : decode cX7_isIn 15 = .ok (.ireturn, 1) := by decide +kernel
set_option maxRecDepth 20000 in
theorem ggX7_isForm_X7_isIn : GoodIn wsX7_isForm wsX7_isIn := goodIn_r _ [5] (by decide +kernel) (by decide +kernel)
set_option maxRecDepth 20000 in
theorem gX7_isForm_X7_isIn : GoodIn wsX7_isForm (va_wsS RX7 66 yX7_isIn wsX7_isIn) := goodIn_app (goodIn_of _ (by decide +kernel)) ggX7_isForm_X7_isIn
theorem dX7_isForm_0 : decode cX7_isForm 0 = .ok (.iload_n 1, 1) := by decide +kernel
theorem dX7_isForm_1 : decode cX7_isForm 1 = .ok (.iconst 0, 1) := by decide +kernel
theorem dX7_isForm_2 : decode cX7_isForm 2 = .ok (.aload_n 0, 1) := by decide +kernel
theorem dX7_isForm_3 : decode cX7_isForm 3 = .ok (.getfield 63, 3) := by decide +kernel
theorem dX7_isForm_6 : decode cX7_isForm 6 = .ok (.iconst 1, 1) := by decide +kernel
theorem dX7_isForm_7 : decode cX7_isForm 7 = .ok (.isub, 1) := by decide +kernel
theorem dX7_isForm_8 : decode cX7_isForm 8 = .ok (.invokestatic 66, 3) := by decide +kernel
theorem dX7_isForm_11 : decode cX7_isForm 11 = .ok (.ireturn, 1) := by decide +kernel
set_option maxRecDepth 20000 in
theorem ggX7_isDegree_X7_isIn : GoodIn wsX7_isDegree wsX7_isIn := goodIn_r _ [4] (by decide +kernel) (by decide +kernel)
set_option maxRecDepth 20000 in
theorem gX7_isDegree_X7_isIn : GoodIn wsX7_isDegree (va_wsS RX7 66 yX7_isIn wsX7_isIn) := goodIn_app (goodIn_of _ (by decide +kernel)) ggX7_isDegree_X7_isIn
theorem dX7_isDegree_0 : decode cX7_isDegree 0 = .ok (.iload_n 1, 1) := by decide +kernel
theorem dX7_isDegree_1 : decode cX7_isDegree 1 = .ok (.iconst 1, 1) := by decide +kernel
theorem dX7_isDegree_2 : decode cX7_isDegree 2 = .ok (.iconst 4, 1) := by decide +kernel
theorem dX7_isDegree_3 : decode cX7_isDegree 3 = .ok (.invokestatic 66, 3) := by decide +kernel
theorem dX7_isDegree_6 : decode cX7_isDegree 6 = .ok (.ireturn, 1) := by decide +kernel
set_option maxRecDepth 20000 in
theorem ggX7_isNumber_X7_isIn : GoodIn wsX7_isNumber wsX7_isIn := goodIn_r _ [5] (by decide +kernel) (by decide +kernel)
set_option maxRecDepth 20000 in
theorem gX7_isNumber_X7_isIn : GoodIn wsX7_isNumber (va_wsS RX7 66 yX7_isIn wsX7_isIn) := goodIn_app (goodIn_of _ (by decide +kernel)) ggX7_isNumber_X7_isIn
theorem dX7_isNumber_0 : decode cX7_isNumber 0 = .ok (.iload_n 1, 1) := by decide +kernel
theorem dX7_isNumber_1 : decode cX7_isNumber 1 = .ok (.iconst 0, 1) := by decide +kernel
theorem dX7_isNumber_2 : decode cX7_isNumber 2 = .ok (.aload_n 0, 1) := by decide +kernel
theorem dX7_isNumber_3 : decode cX7_isNumber 3 = .ok (.getfield 7, 3) := by decide +kernel
theorem dX7_isNumber_6 : decode cX7_isNumber 6 = .ok (.iconst 1, 1) := by decide +kernel
theorem dX7_isNumber_7 : decode cX7_isNumber 7 = .ok (.isub, 1) := by decide +kernel
theorem dX7_isNumber_8 : decode cX7_isNumber 8 = .ok (.invokestatic 66, 3) := by decide +kernel
theorem dX7_isNumber_11 : decode cX7_isNumber 11 = .ok (.ireturn, 1) := by decide +kernel
theorem dX7_power_0 : decode cX7_power 0 = .ok (.iconst 1, 1) := by decide +kernel
theorem dX7_power_1 : decode cX7_power 1 = .ok (.istore_n 2, 1) := by decide +kernel
theorem dX7_power_2 : decode cX7_power 2 = .ok (.iconst 0, 1) := by decide +kernel
theorem dX7_power_3 : decode cX7_power 3 = .ok (.istore_n 3, 1) := by decide +kernel
theorem dX7_power_4 : decode cX7_power 4 = .ok (.iload_n 3, 1) := by decide +kernel
theorem dX7_power_5 : decode cX7_power 5 = .ok (.iload_n 1, 1) := by decide +kernel
theorem dX7_power_6 : decode cX7_power 6 = .ok (.if_icmp .ge 16, 3) := by decide +kernel
theorem dX7_power_9 : decode cX7_power 9 = .ok (.iload_n 2, 1) := by decide +kernel
theorem dX7_power_10 : decode cX7_power 10 = .ok (.aload_n 0, 1) := by decide +kernel
theorem dX7_power_11 : decode cX7_power 11 = .ok (.getfield 7, 3) := by decide +kernel
theorem dX7_power_14 : decode cX7_power 14 = .ok (.imul, 1) := by decide +kernel
theorem dX7_power_15 : decode cX7_power 15 = .ok (.istore_n 2, 1) := by decide +kernel
theorem dX7_power_16 : decode cX7_power 16 = .ok (.iinc 3 1, 3) := by decide +kernel
theorem dX7_power_19 : decode cX7_power 19 = .ok (.goto (-15), 3) := by decide +kernel
theorem dX7_power_22 : decode cX7_power 22 = .ok (.iload_n 2, 1) := by decide +kernel
theorem dX7_power_23 : decode cX7_power 23 = .ok (.ireturn, 1) := by decide +kernel
theorem dX7_mod_0 : decode cX7_mod 0 = .ok (.iload_n 1, 1) := by decide +kernel
theorem dX7_mod_1 : decode cX7_mod 1 = .ok (.aload_n 0, 1) := by decide +kernel
theorem dX7_mod_2 : decode cX7_mod 2 = .ok (.getfield 7, 3) := by decide +kernel
theorem dX7_mod_5 : decode cX7_mod 5 = .ok (.irem, 1) := by decide +kernel
theorem dX7_mod_6 : decode cX7_mod 6 = .ok (.istore_n 2, 1) := by decide +kernel
theorem dX7_mod_7 : decode cX7_mod 7 = .ok (.iload_n 2, 1) := by decide +kernel
theorem dX7_mod_8 : decode cX7_mod 8 = .ok (.ifCond .ge 12, 3) := by decide +kernel
theorem dX7_mod_11 : decode cX7_mod 11 = .ok (.iload_n 2, 1) := by decide +kernel
theorem dX7_mod_12 : decode cX7_mod 12 = .ok (.aload_n 0, 1) := by decide +kernel
theorem dX7_mod_13 : decode cX7_mod 13 = .ok (.getfield 7, 3) := by decide +kernel
theorem dX7_mod_16 : decode cX7_mod 16 = .ok (.iadd, 1) := by decide +kernel
theorem dX7_mod_17 : decode cX7_mod 17 = .ok (.goto 4, 3) := by decide +kernel
theorem dX7_mod_20 : decode cX7_mod 20 = .ok (.iload_n 2, 1) := by decide +kernel
theorem dX7_mod_21 : decode cX7_mod 21 = .ok (.ireturn, 1) := by decide +kernel
set_option maxRecDepth 20000 in
theorem ggX7_figure_X7_power : GoodIn wsX7_figure wsX7_power := goodIn_r _ [6, 1, 7, 8, 9, 10, 11, 12, 13, 14, 15, 16, 17, 18, 19, 20, 21, 22, 23, 24, 25, 26, 27, 28] (by decide +kernel) (by decide +kernel)
set_option maxRecDepth 20000 in
theorem gX7_figure_X7_power : GoodIn wsX7_figure (wsV RX7 70 RX7 yX7_power wsX7_power) := goodIn_app (goodIn_of _ (by decide +kernel)) ggX7_figure_X7_power
theorem dX7_figure_0 : decode cX7_figure 0 = .ok (.iload_n 1, 1) := by decide +kernel
theorem dX7_figure_1 : decode cX7_figure 1 = .ok (.aload_n 0, 1) := by decide +kernel
theorem dX7_figure_2 : decode cX7_figure 2 = .ok (.iload_n 2, 1) := by decide +kernel
theorem dX7_figure_3 : decode cX7_figure 3 = .ok (.invokevirtual 70, 3) := by decide +kernel
theorem dX7_figure_6 : decode cX7_figure 6 = .ok (.idiv, 1) := by decide +kernel
theorem dX7_figure_7 : decode cX7_figure 7 = .ok (.aload_n 0, 1) := by decide +kernel
theorem dX7_figure_8 : decode cX7_figure 8 = .ok (.getfield 7, 3) := by decide +kernel
theorem dX7_figure_11 : decode cX7_figure 11 = .ok (.irem, 1) := by decide +kernel
theorem dX7_figure_12 : decode cX7_figure 12 = .ok (.ireturn, 1) := by decide +kernel
set_option maxRecDepth 20000 in
theorem ggX7_prime_X7_holds : GoodIn wsX7_prime wsX7_holds := goodIn_r _ [8, 9, 10, 11, 12, 13, 14, 15, 16, 17, 18, 19, 20, 21, 22, 23, 24, 25, 26, 27, 28, 29, 30, 31] (by decide +kernel) (by decide +kernel)
set_option maxRecDepth 20000 in
theorem gX7_prime_X7_holds : GoodIn wsX7_prime (wsV RX7 74 RX7 yX7_holds wsX7_holds) := goodIn_app (goodIn_of _ (by decide +kernel)) ggX7_prime_X7_holds
theorem dX7_prime_0 : decode cX7_prime 0 = .ok (.aload_n 0, 1) := by decide +kernel
theorem dX7_prime_1 : decode cX7_prime 1 = .ok (.iload_n 1, 1) := by decide +kernel
theorem dX7_prime_2 : decode cX7_prime 2 = .ok (.iconst 2, 1) := by decide +kernel
theorem dX7_prime_3 : decode cX7_prime 3 = .ok (.if_icmp .eq 13, 3) := by decide +kernel
theorem dX7_prime_6 : decode cX7_prime 6 = .ok (.iload_n 1, 1) := by decide +kernel
theorem dX7_prime_7 : decode cX7_prime 7 = .ok (.iconst 3, 1) := by decide +kernel
theorem dX7_prime_8 : decode cX7_prime 8 = .ok (.if_icmp .eq 8, 3) := by decide +kernel
theorem dX7_prime_11 : decode cX7_prime 11 = .ok (.iload_n 1, 1) := by decide +kernel
theorem dX7_prime_12 : decode cX7_prime 12 = .ok (.iconst 5, 1) := by decide +kernel
theorem dX7_prime_13 : decode cX7_prime 13 = .ok (.if_icmp .ne 7, 3) := by decide +kernel
theorem dX7_prime_16 : decode cX7_prime 16 = .ok (.iconst 0, 1) := by decide +kernel
theorem dX7_prime_17 : decode cX7_prime 17 = .ok (.goto 4, 3) := by decide +kernel
theorem dX7_prime_20 : decode cX7_prime 20 = .ok (.iconst 1, 1) := by decide +kernel
theorem dX7_prime_21 : decode cX7_prime 21 = .ok (.invokevirtual 74, 3) := by decide +kernel
theorem dX7_prime_24 : decode cX7_prime 24 = .ok (.ifCond .ne 5, 3) := by decide +kernel
theorem dX7_prime_27 : decode cX7_prime 27 = .ok (.iconst 0, 1) := by decide +kernel
theorem dX7_prime_28 : decode cX7_prime 28 = .ok (.ireturn, 1) := by decide +kernel
theorem dX7_prime_29 : decode cX7_prime 29 = .ok (.aload_n 0, 1) := by decide +kernel
theorem dX7_prime_30 : decode cX7_prime 30 = .ok (.getfield 7, 3) := by decide +kernel
theorem dX7_prime_33 : decode cX7_prime 33 = .ok (.istore_n 2, 1) := by decide +kernel
theorem dX7_prime_34 : decode cX7_prime 34 = .ok (.aload_n 0, 1) := by decide +kernel
theorem dX7_prime_35 : decode cX7_prime 35 = .ok (.iload_n 1, 1) := by decide +kernel
theorem dX7_prime_36 : decode cX7_prime 36 = .ok (.putfield 7, 3) := by decide +kernel
theorem dX7_prime_39 : decode cX7_prime 39 = .ok (.aload_n 0, 1) := by decide +kernel
theorem dX7_prime_40 : decode cX7_prime 40 = .ok (.iconst 0, 1) := by decide +kernel
theorem dX7_prime_41 : decode cX7_prime 41 = .ok (.putfield 63, 3) := by decide +kernel
theorem dX7_prime_44 : decode cX7_prime 44 = .ok (.aload_n 0, 1) := by decide +kernel
theorem dX7_prime_45 : decode cX7_prime 45 = .ok (.iconst 0, 1) := by decide +kernel
theorem dX7_prime_46 : decode cX7_prime 46 = .ok (.putfield 78, 3) := by decide +kernel
theorem dX7_prime_49 : decode cX7_prime 49 = .ok (.iload_n 2, 1) := by decide +kernel
theorem dX7_prime_50 : decode cX7_prime 50 = .ok (.ireturn, 1) := by decide +kernel
set_option maxRecDepth 20000 in
theorem ggX7_form_X7_isDegree : GoodIn wsX7_form wsX7_isDegree := goodIn_r _ [8, 9, 10, 7, 11] (by decide +kernel) (by decide +kernel)
set_option maxRecDepth 20000 in
theorem gX7_form_X7_isDegree : GoodIn wsX7_form (wsV RX7 81 RX7 yX7_isDegree wsX7_isDegree) := goodIn_app (goodIn_of _ (by decide +kernel)) ggX7_form_X7_isDegree
set_option maxRecDepth 20000 in
theorem ggX7_form_X7_power : GoodIn wsX7_form wsX7_power := goodIn_r _ [15, 16, 22, 23, 24, 25, 26, 27, 28, 29, 30, 31, 32, 33, 34, 35, 36, 37, 38, 39, 40, 41, 42, 43] (by decide +kernel) (by decide +kernel)
set_option maxRecDepth 20000 in
theorem gX7_form_X7_power : GoodIn wsX7_form (wsV RX7 70 RX7 yX7_power wsX7_power) := goodIn_app (goodIn_of _ (by decide +kernel)) ggX7_form_X7_power
set_option maxRecDepth 20000 in
theorem ggX7_form_X7_isIn : GoodIn wsX7_form wsX7_isIn := goodIn_r _ [11] (by decide +kernel) (by decide +kernel)
set_option maxRecDepth 20000 in
theorem gX7_form_X7_isIn : GoodIn wsX7_form (va_wsS RX7 66 yX7_isIn wsX7_isIn) := goodIn_app (goodIn_of _ (by decide +kernel)) ggX7_form_X7_isIn
set_option maxRecDepth 20000 in
theorem ggX7_form_X7_holds : GoodIn wsX7_form wsX7_holds := goodIn_r _ [20, 21, 22, 23, 24, 25, 26, 27, 28, 29, 30, 31, 32, 33, 34, 35, 36, 37, 38, 39, 40, 41, 42, 43] (by decide +kernel) (by decide +kernel)
set_option maxRecDepth 20000 in
theorem gX7_form_X7_holds : GoodIn wsX7_form (wsV RX7 74 RX7 yX7_holds wsX7_holds) := goodIn_app (goodIn_of _ (by decide +kernel)) ggX7_form_X7_holds
theorem dX7_form_0 : decode cX7_form 0 = .ok (.aload_n 0, 1) := by decide +kernel
theorem dX7_form_1 : decode cX7_form 1 = .ok (.iload_n 1, 1) := by decide +kernel
theorem dX7_form_2 : decode cX7_form 2 = .ok (.invokevirtual 81, 3) := by decide +kernel
theorem dX7_form_5 : decode cX7_form 5 = .ok (.ifCond .eq 24, 3) := by decide +kernel
theorem dX7_form_8 : decode cX7_form 8 = .ok (.iload_n 2, 1) := by decide +kernel
theorem dX7_form_9 : decode cX7_form 9 = .ok (.iconst 0, 1) := by decide +kernel
theorem dX7_form_10 : decode cX7_form 10 = .ok (.aload_n 0, 1) := by decide +kernel
theorem dX7_form_11 : decode cX7_form 11 = .ok (.iload_n 1, 1) := by decide +kernel
theorem dX7_form_12 : decode cX7_form 12 = .ok (.iconst 1, 1) := by decide +kernel
theorem dX7_form_13 : decode cX7_form 13 = .ok (.iadd, 1) := by decide +kernel
theorem dX7_form_14 : decode cX7_form 14 = .ok (.invokevirtual 70, 3) := by decide +kernel
theorem dX7_form_17 : decode cX7_form 17 = .ok (.iconst 1, 1) := by decide +kernel
theorem dX7_form_18 : decode cX7_form 18 = .ok (.isub, 1) := by decide +kernel
theorem dX7_form_19 : decode cX7_form 19 = .ok (.invokestatic 66, 3) := by decide +kernel
theorem dX7_form_22 : decode cX7_form 22 = .ok (.ifCond .eq 7, 3) := by decide +kernel
theorem dX7_form_25 : decode cX7_form 25 = .ok (.iconst 1, 1) := by decide +kernel
theorem dX7_form_26 : decode cX7_form 26 = .ok (.goto 4, 3) := by decide +kernel
theorem dX7_form_29 : decode cX7_form 29 = .ok (.iconst 0, 1) := by decide +kernel
theorem dX7_form_30 : decode cX7_form 30 = .ok (.istore_n 3, 1) := by decide +kernel
theorem dX7_form_31 : decode cX7_form 31 = .ok (.aload_n 0, 1) := by decide +kernel
theorem dX7_form_32 : decode cX7_form 32 = .ok (.iload_n 3, 1) := by decide +kernel
theorem dX7_form_33 : decode cX7_form 33 = .ok (.ifCond .ne 7, 3) := by decide +kernel
theorem dX7_form_36 : decode cX7_form 36 = .ok (.iconst 1, 1) := by decide +kernel
theorem dX7_form_37 : decode cX7_form 37 = .ok (.goto 17, 3) := by decide +kernel
theorem dX7_form_40 : decode cX7_form 40 = .ok (.aload_n 0, 1) := by decide +kernel
theorem dX7_form_41 : decode cX7_form 41 = .ok (.getfield 63, 3) := by decide +kernel
theorem dX7_form_44 : decode cX7_form 44 = .ok (.bipush 20, 2) := by decide +kernel
theorem dX7_form_46 : decode cX7_form 46 = .ok (.if_icmp .ne 7, 3) := by decide +kernel
theorem dX7_form_49 : decode cX7_form 49 = .ok (.iconst 2, 1) := by decide +kernel
theorem dX7_form_50 : decode cX7_form 50 = .ok (.goto 4, 3) := by decide +kernel
theorem dX7_form_53 : decode cX7_form 53 = .ok (.iconst 0, 1) := by decide +kernel
theorem dX7_form_54 : decode cX7_form 54 = .ok (.invokevirtual 74, 3) := by decide +kernel
theorem dX7_form_57 : decode cX7_form 57 = .ok (.ifCond .ne 5, 3) := by decide +kernel
theorem dX7_form_60 : decode cX7_form 60 = .ok (.iconst 0, 1) := by decide +kernel
theorem dX7_form_61 : decode cX7_form 61 = .ok (.ireturn, 1) := by decide +kernel
theorem dX7_form_62 : decode cX7_form 62 = .ok (.aload_n 0, 1) := by decide +kernel
theorem dX7_form_63 : decode cX7_form 63 = .ok (.getfield 13, 3) := by decide +kernel
theorem dX7_form_66 : decode cX7_form 66 = .ok (.aload_n 0, 1) := by decide +kernel
theorem dX7_form_67 : decode cX7_form 67 = .ok (.getfield 63, 3) := by decide +kernel
theorem dX7_form_70 : decode cX7_form 70 = .ok (.iload_n 1, 1) := by decide +kernel
theorem dX7_form_71 : decode cX7_form 71 = .ok (.iastore, 1) := by decide +kernel
theorem dX7_form_72 : decode cX7_form 72 = .ok (.aload_n 0, 1) := by decide +kernel
theorem dX7_form_73 : decode cX7_form 73 = .ok (.getfield 17, 3) := by decide +kernel
theorem dX7_form_76 : decode cX7_form 76 = .ok (.aload_n 0, 1) := by decide +kernel
theorem dX7_form_77 : decode cX7_form 77 = .ok (.getfield 63, 3) := by decide +kernel
theorem dX7_form_80 : decode cX7_form 80 = .ok (.iload_n 2, 1) := by decide +kernel
theorem dX7_form_81 : decode cX7_form 81 = .ok (.iastore, 1) := by decide +kernel
theorem dX7_form_82 : decode cX7_form 82 = .ok (.aload_n 0, 1) := by decide +kernel
theorem dX7_form_83 : decode cX7_form 83 = .ok (.dup, 1) := by decide +kernel
theorem dX7_form_84 : decode cX7_form 84 = .ok (.getfield 63, 3) := by decide +kernel
theorem dX7_form_87 : decode cX7_form 87 = .ok (.iconst 1, 1) := by decide +kernel
theorem dX7_form_88 : decode cX7_form 88 = .ok (.iadd, 1) := by decide +kernel
theorem dX7_form_89 : decode cX7_form 89 = .ok (.putfield 63, 3) := by decide +kernel
theorem dX7_form_92 : decode cX7_form 92 = .ok (.aload_n 0, 1) := by decide +kernel
theorem dX7_form_93 : decode cX7_form 93 = .ok (.getfield 63, 3) := by decide +kernel
theorem dX7_form_96 : decode cX7_form 96 = .ok (.iconst 1, 1) := by decide +kernel
theorem dX7_form_97 : decode cX7_form 97 = .ok (.isub, 1) := by decide +kernel
theorem dX7_form_98 : decode cX7_form 98 = .ok (.ireturn, 1) := by decide +kernel
set_option maxRecDepth 20000 in
theorem ggX7_valueAt_X7_figure : GoodIn wsX7_valueAt wsX7_figure := goodIn_r _ [7, 8, 9, 10, 11, 6, 12, 17, 18, 19, 20, 21, 22, 23, 24, 25, 26, 27, 28, 29, 30, 31, 32, 33, 34, 35, 36, 37, 38] (by decide +kernel) (by decide +kernel)
set_option maxRecDepth 20000 in
theorem gX7_valueAt_X7_figure : GoodIn wsX7_valueAt (wsV RX7 84 RX7 yX7_figure wsX7_figure) := goodIn_app (goodIn_of _ (by decide +kernel)) ggX7_valueAt_X7_figure
set_option maxRecDepth 20000 in
theorem ggX7_valueAt_X7_mod : GoodIn wsX7_valueAt wsX7_mod := goodIn_r _ [16, 8, 17, 18, 19, 20, 21, 22, 23, 24, 25, 26, 27, 28, 29, 30, 31, 32, 33, 34, 35, 36, 37, 38] (by decide +kernel) (by decide +kernel)
set_option maxRecDepth 20000 in
theorem gX7_valueAt_X7_mod : GoodIn wsX7_valueAt (wsV RX7 88 RX7 yX7_mod wsX7_mod) := goodIn_app (goodIn_of _ (by decide +kernel)) ggX7_valueAt_X7_mod
theorem dX7_valueAt_0 : decode cX7_valueAt 0 = .ok (.aload_n 0, 1) := by decide +kernel
theorem dX7_valueAt_1 : decode cX7_valueAt 1 = .ok (.getfield 13, 3) := by decide +kernel
theorem dX7_valueAt_4 : decode cX7_valueAt 4 = .ok (.iload_n 1, 1) := by decide +kernel
theorem dX7_valueAt_5 : decode cX7_valueAt 5 = .ok (.iaload, 1) := by decide +kernel
theorem dX7_valueAt_6 : decode cX7_valueAt 6 = .ok (.istore 4, 2) := by decide +kernel
theorem dX7_valueAt_8 : decode cX7_valueAt 8 = .ok (.iconst 0, 1) := by decide +kernel
theorem dX7_valueAt_9 : decode cX7_valueAt 9 = .ok (.istore 5, 2) := by decide +kernel
theorem dX7_valueAt_11 : decode cX7_valueAt 11 = .ok (.iconst 0, 1) := by decide +kernel
theorem dX7_valueAt_12 : decode cX7_valueAt 12 = .ok (.istore 6, 2) := by decide +kernel
theorem dX7_valueAt_14 : decode cX7_valueAt 14 = .ok (.iload 6, 2) := by decide +kernel
theorem dX7_valueAt_16 : decode cX7_valueAt 16 = .ok (.iload 4, 2) := by decide +kernel
theorem dX7_valueAt_18 : decode cX7_valueAt 18 = .ok (.if_icmp .gt 67, 3) := by decide +kernel
theorem dX7_valueAt_21 : decode cX7_valueAt 21 = .ok (.aload_n 0, 1) := by decide +kernel
theorem dX7_valueAt_22 : decode cX7_valueAt 22 = .ok (.aload_n 0, 1) := by decide +kernel
theorem dX7_valueAt_23 : decode cX7_valueAt 23 = .ok (.getfield 17, 3) := by decide +kernel
theorem dX7_valueAt_26 : decode cX7_valueAt 26 = .ok (.iload_n 1, 1) := by decide +kernel
theorem dX7_valueAt_27 : decode cX7_valueAt 27 = .ok (.iaload, 1) := by decide +kernel
theorem dX7_valueAt_28 : decode cX7_valueAt 28 = .ok (.iload 6, 2) := by decide +kernel
theorem dX7_valueAt_30 : decode cX7_valueAt 30 = .ok (.invokevirtual 84, 3) := by decide +kernel
theorem dX7_valueAt_33 : decode cX7_valueAt 33 = .ok (.istore 7, 2) := by decide +kernel
theorem dX7_valueAt_35 : decode cX7_valueAt 35 = .ok (.iconst 0, 1) := by decide +kernel
theorem dX7_valueAt_36 : decode cX7_valueAt 36 = .ok (.istore 8, 2) := by decide +kernel
theorem dX7_valueAt_38 : decode cX7_valueAt 38 = .ok (.iload 8, 2) := by decide +kernel
theorem dX7_valueAt_40 : decode cX7_valueAt 40 = .ok (.iload 4, 2) := by decide +kernel
theorem dX7_valueAt_42 : decode cX7_valueAt 42 = .ok (.if_icmp .ge 30, 3) := by decide +kernel
theorem dX7_valueAt_45 : decode cX7_valueAt 45 = .ok (.aload_n 0, 1) := by decide +kernel
theorem dX7_valueAt_46 : decode cX7_valueAt 46 = .ok (.iload 7, 2) := by decide +kernel
theorem dX7_valueAt_48 : decode cX7_valueAt 48 = .ok (.iload 8, 2) := by decide +kernel
theorem dX7_valueAt_50 : decode cX7_valueAt 50 = .ok (.iload 6, 2) := by decide +kernel
theorem dX7_valueAt_52 : decode cX7_valueAt 52 = .ok (.if_icmp .ge 7, 3) := by decide +kernel
theorem dX7_valueAt_55 : decode cX7_valueAt 55 = .ok (.iload_n 3, 1) := by decide +kernel
theorem dX7_valueAt_56 : decode cX7_valueAt 56 = .ok (.goto 4, 3) := by decide +kernel
theorem dX7_valueAt_59 : decode cX7_valueAt 59 = .ok (.iload_n 2, 1) := by decide +kernel
theorem dX7_valueAt_60 : decode cX7_valueAt 60 = .ok (.imul, 1) := by decide +kernel
theorem dX7_valueAt_61 : decode cX7_valueAt 61 = .ok (.invokevirtual 88, 3) := by decide +kernel
theorem dX7_valueAt_64 : decode cX7_valueAt 64 = .ok (.istore 7, 2) := by decide +kernel
theorem dX7_valueAt_66 : decode cX7_valueAt 66 = .ok (.iinc 8 1, 3) := by decide +kernel
theorem dX7_valueAt_69 : decode cX7_valueAt 69 = .ok (.goto (-31), 3) := by decide +kernel
theorem dX7_valueAt_72 : decode cX7_valueAt 72 = .ok (.iload 5, 2) := by decide +kernel
theorem dX7_valueAt_74 : decode cX7_valueAt 74 = .ok (.iload 7, 2) := by decide +kernel
theorem dX7_valueAt_76 : decode cX7_valueAt 76 = .ok (.iadd, 1) := by decide +kernel
theorem dX7_valueAt_77 : decode cX7_valueAt 77 = .ok (.istore 5, 2) := by decide +kernel
theorem dX7_valueAt_79 : decode cX7_valueAt 79 = .ok (.iinc 6 1, 3) := by decide +kernel
theorem dX7_valueAt_82 : decode cX7_valueAt 82 = .ok (.goto (-68), 3) := by decide +kernel
theorem dX7_valueAt_85 : decode cX7_valueAt 85 = .ok (.aload_n 0, 1) := by decide +kernel
theorem dX7_valueAt_86 : decode cX7_valueAt 86 = .ok (.iload 5, 2) := by decide +kernel
theorem dX7_valueAt_88 : decode cX7_valueAt 88 = .ok (.invokevirtual 88, 3) := by decide +kernel
theorem dX7_valueAt_91 : decode cX7_valueAt 91 = .ok (.ireturn, 1) := by decide +kernel
set_option maxRecDepth 20000 in
theorem ggX7_at_X7_isForm : GoodIn wsX7_at wsX7_isForm := goodIn_r _ [5, 6, 7, 8, 4, 9, 38, 39, 40, 41, 42, 43, 44, 45, 46, 47, 48, 49, 50, 51, 52, 53, 54, 55, 56, 57, 58, 59] (by decide +kernel) (by decide +kernel)
set_option maxRecDepth 20000 in
theorem gX7_at_X7_isForm : GoodIn wsX7_at (wsV RX7 91 RX7 yX7_isForm wsX7_isForm) := goodIn_app (goodIn_of _ (by decide +kernel)) ggX7_at_X7_isForm
set_option maxRecDepth 20000 in
theorem ggX7_at_X7_isNumber : GoodIn wsX7_at wsX7_isNumber := goodIn_r _ [13, 14, 7, 8, 4, 9, 38, 39, 40, 41, 42, 43, 44, 45, 46, 47, 48, 49, 50, 51, 52, 53, 54, 55, 56, 57, 58, 59] (by decide +kernel) (by decide +kernel)
set_option maxRecDepth 20000 in
theorem gX7_at_X7_isNumber : GoodIn wsX7_at (wsV RX7 94 RX7 yX7_isNumber wsX7_isNumber) := goodIn_app (goodIn_of _ (by decide +kernel)) ggX7_at_X7_isNumber
set_option maxRecDepth 20000 in
theorem ggX7_at_X7_holds : GoodIn wsX7_at wsX7_holds := goodIn_r _ [18, 19, 38, 39, 40, 41, 42, 43, 44, 45, 46, 47, 48, 49, 50, 51, 52, 53, 54, 55, 56, 57, 58, 59] (by decide +kernel) (by decide +kernel)
set_option maxRecDepth 20000 in
theorem gX7_at_X7_holds : GoodIn wsX7_at (wsV RX7 74 RX7 yX7_holds wsX7_holds) := goodIn_app (goodIn_of _ (by decide +kernel)) ggX7_at_X7_holds
set_option maxRecDepth 20000 in
theorem ggX7_at_X7_valueAt : GoodIn wsX7_at wsX7_valueAt := goodIn_r _ [23, 24, 25, 26, 27, 28, 4, 29, 14, 30, 31, 32, 33, 34, 35, 36, 37, 38, 39, 40, 41, 42, 43, 44, 45, 46, 47, 48, 49, 50, 51, 52, 53, 54, 55, 56, 57, 58, 59] (by decide +kernel) (by decide +kernel)
set_option maxRecDepth 20000 in
theorem gX7_at_X7_valueAt : GoodIn wsX7_at (wsV RX7 97 RX7 yX7_valueAt wsX7_valueAt) := goodIn_app (goodIn_of _ (by decide +kernel)) ggX7_at_X7_valueAt
theorem dX7_at_0 : decode cX7_at 0 = .ok (.aload_n 0, 1) := by decide +kernel
theorem dX7_at_1 : decode cX7_at 1 = .ok (.iload_n 1, 1) := by decide +kernel
theorem dX7_at_2 : decode cX7_at 2 = .ok (.invokevirtual 91, 3) := by decide +kernel
theorem dX7_at_5 : decode cX7_at 5 = .ok (.istore 4, 2) := by decide +kernel
theorem dX7_at_7 : decode cX7_at 7 = .ok (.aload_n 0, 1) := by decide +kernel
theorem dX7_at_8 : decode cX7_at 8 = .ok (.iload 4, 2) := by decide +kernel
theorem dX7_at_10 : decode cX7_at 10 = .ok (.ifCond .ne 7, 3) := by decide +kernel
theorem dX7_at_13 : decode cX7_at 13 = .ok (.iconst 1, 1) := by decide +kernel
theorem dX7_at_14 : decode cX7_at 14 = .ok (.goto 24, 3) := by decide +kernel
theorem dX7_at_17 : decode cX7_at 17 = .ok (.aload_n 0, 1) := by decide +kernel
theorem dX7_at_18 : decode cX7_at 18 = .ok (.iload_n 2, 1) := by decide +kernel
theorem dX7_at_19 : decode cX7_at 19 = .ok (.invokevirtual 94, 3) := by decide +kernel
theorem dX7_at_22 : decode cX7_at 22 = .ok (.ifCond .eq 11, 3) := by decide +kernel
theorem dX7_at_25 : decode cX7_at 25 = .ok (.aload_n 0, 1) := by decide +kernel
theorem dX7_at_26 : decode cX7_at 26 = .ok (.iload_n 3, 1) := by decide +kernel
theorem dX7_at_27 : decode cX7_at 27 = .ok (.invokevirtual 94, 3) := by decide +kernel
theorem dX7_at_30 : decode cX7_at 30 = .ok (.ifCond .ne 7, 3) := by decide +kernel
theorem dX7_at_33 : decode cX7_at 33 = .ok (.iconst 2, 1) := by decide +kernel
theorem dX7_at_34 : decode cX7_at 34 = .ok (.goto 4, 3) := by decide +kernel
theorem dX7_at_37 : decode cX7_at 37 = .ok (.iconst 0, 1) := by decide +kernel
theorem dX7_at_38 : decode cX7_at 38 = .ok (.invokevirtual 74, 3) := by decide +kernel
theorem dX7_at_41 : decode cX7_at 41 = .ok (.ifCond .eq 13, 3) := by decide +kernel
theorem dX7_at_44 : decode cX7_at 44 = .ok (.aload_n 0, 1) := by decide +kernel
theorem dX7_at_45 : decode cX7_at 45 = .ok (.iload_n 1, 1) := by decide +kernel
theorem dX7_at_46 : decode cX7_at 46 = .ok (.iload_n 2, 1) := by decide +kernel
theorem dX7_at_47 : decode cX7_at 47 = .ok (.iload_n 3, 1) := by decide +kernel
theorem dX7_at_48 : decode cX7_at 48 = .ok (.invokevirtual 97, 3) := by decide +kernel
theorem dX7_at_51 : decode cX7_at 51 = .ok (.goto 4, 3) := by decide +kernel
theorem dX7_at_54 : decode cX7_at 54 = .ok (.iconst 0, 1) := by decide +kernel
theorem dX7_at_55 : decode cX7_at 55 = .ok (.ireturn, 1) := by decide +kernel
set_option maxRecDepth 20000 in
theorem ggX7_oftenAt_X7_figure : GoodIn wsX7_oftenAt wsX7_figure := goodIn_r _ [9, 4, 10, 11, 12, 8, 13, 18, 19, 20, 21, 22, 23, 24, 25, 26, 27, 28, 29, 30, 31, 32, 33, 34, 35, 36, 37, 38, 39] (by decide +kernel) (by decide +kernel)
set_option maxRecDepth 20000 in
theorem gX7_oftenAt_X7_figure : GoodIn wsX7_oftenAt (wsV RX7 84 RX7 yX7_figure wsX7_figure) := goodIn_app (goodIn_of _ (by decide +kernel)) ggX7_oftenAt_X7_figure
set_option maxRecDepth 20000 in
theorem ggX7_oftenAt_X7_mod : GoodIn wsX7_oftenAt wsX7_mod := goodIn_r _ [17, 4, 18, 19, 20, 21, 22, 23, 24, 25, 26, 27, 28, 29, 30, 31, 32, 33, 34, 35, 36, 37, 38, 39] (by decide +kernel) (by decide +kernel)
set_option maxRecDepth 20000 in
theorem gX7_oftenAt_X7_mod : GoodIn wsX7_oftenAt (wsV RX7 88 RX7 yX7_mod wsX7_mod) := goodIn_app (goodIn_of _ (by decide +kernel)) ggX7_oftenAt_X7_mod
theorem dX7_oftenAt_0 : decode cX7_oftenAt 0 = .ok (.aload_n 0, 1) := by decide +kernel
theorem dX7_oftenAt_1 : decode cX7_oftenAt 1 = .ok (.getfield 13, 3) := by decide +kernel
theorem dX7_oftenAt_4 : decode cX7_oftenAt 4 = .ok (.iload_n 1, 1) := by decide +kernel
theorem dX7_oftenAt_5 : decode cX7_oftenAt 5 = .ok (.iaload, 1) := by decide +kernel
theorem dX7_oftenAt_6 : decode cX7_oftenAt 6 = .ok (.istore_n 3, 1) := by decide +kernel
theorem dX7_oftenAt_7 : decode cX7_oftenAt 7 = .ok (.aload_n 0, 1) := by decide +kernel
theorem dX7_oftenAt_8 : decode cX7_oftenAt 8 = .ok (.getfield 17, 3) := by decide +kernel
theorem dX7_oftenAt_11 : decode cX7_oftenAt 11 = .ok (.iload_n 1, 1) := by decide +kernel
theorem dX7_oftenAt_12 : decode cX7_oftenAt 12 = .ok (.iaload, 1) := by decide +kernel
theorem dX7_oftenAt_13 : decode cX7_oftenAt 13 = .ok (.ifCond .ne 7, 3) := by decide +kernel
theorem dX7_oftenAt_16 : decode cX7_oftenAt 16 = .ok (.iload_n 3, 1) := by decide +kernel
theorem dX7_oftenAt_17 : decode cX7_oftenAt 17 = .ok (.iconst 1, 1) := by decide +kernel
theorem dX7_oftenAt_18 : decode cX7_oftenAt 18 = .ok (.iadd, 1) := by decide +kernel
theorem dX7_oftenAt_19 : decode cX7_oftenAt 19 = .ok (.ireturn, 1) := by decide +kernel
theorem dX7_oftenAt_20 : decode cX7_oftenAt 20 = .ok (.iconst 0, 1) := by decide +kernel
theorem dX7_oftenAt_21 : decode cX7_oftenAt 21 = .ok (.istore 4, 2) := by decide +kernel
theorem dX7_oftenAt_23 : decode cX7_oftenAt 23 = .ok (.iload 4, 2) := by decide +kernel
theorem dX7_oftenAt_25 : decode cX7_oftenAt 25 = .ok (.iload_n 3, 1) := by decide +kernel
theorem dX7_oftenAt_26 : decode cX7_oftenAt 26 = .ok (.if_icmp .gt 28, 3) := by decide +kernel
theorem dX7_oftenAt_29 : decode cX7_oftenAt 29 = .ok (.aload_n 0, 1) := by decide +kernel
theorem dX7_oftenAt_30 : decode cX7_oftenAt 30 = .ok (.getfield 36, 3) := by decide +kernel
theorem dX7_oftenAt_33 : decode cX7_oftenAt 33 = .ok (.iload 4, 2) := by decide +kernel
theorem dX7_oftenAt_35 : decode cX7_oftenAt 35 = .ok (.aload_n 0, 1) := by decide +kernel
theorem dX7_oftenAt_36 : decode cX7_oftenAt 36 = .ok (.aload_n 0, 1) := by decide +kernel
theorem dX7_oftenAt_37 : decode cX7_oftenAt 37 = .ok (.getfield 17, 3) := by decide +kernel
theorem dX7_oftenAt_40 : decode cX7_oftenAt 40 = .ok (.iload_n 1, 1) := by decide +kernel
theorem dX7_oftenAt_41 : decode cX7_oftenAt 41 = .ok (.iaload, 1) := by decide +kernel
theorem dX7_oftenAt_42 : decode cX7_oftenAt 42 = .ok (.iload 4, 2) := by decide +kernel
theorem dX7_oftenAt_44 : decode cX7_oftenAt 44 = .ok (.invokevirtual 84, 3) := by decide +kernel
theorem dX7_oftenAt_47 : decode cX7_oftenAt 47 = .ok (.iastore, 1) := by decide +kernel
theorem dX7_oftenAt_48 : decode cX7_oftenAt 48 = .ok (.iinc 4 1, 3) := by decide +kernel
theorem dX7_oftenAt_51 : decode cX7_oftenAt 51 = .ok (.goto (-28), 3) := by decide +kernel
theorem dX7_oftenAt_54 : decode cX7_oftenAt 54 = .ok (.iconst 0, 1) := by decide +kernel
theorem dX7_oftenAt_55 : decode cX7_oftenAt 55 = .ok (.istore 4, 2) := by decide +kernel
theorem dX7_oftenAt_57 : decode cX7_oftenAt 57 = .ok (.iconst 1, 1) := by decide +kernel
theorem dX7_oftenAt_58 : decode cX7_oftenAt 58 = .ok (.istore 5, 2) := by decide +kernel
theorem dX7_oftenAt_60 : decode cX7_oftenAt 60 = .ok (.iload 5, 2) := by decide +kernel
theorem dX7_oftenAt_62 : decode cX7_oftenAt 62 = .ok (.ifCond .eq 154, 3) := by decide +kernel
theorem dX7_oftenAt_65 : decode cX7_oftenAt 65 = .ok (.iload_n 3, 1) := by decide +kernel
theorem dX7_oftenAt_66 : decode cX7_oftenAt 66 = .ok (.ifCond .lt 150, 3) := by decide +kernel
theorem dX7_oftenAt_69 : decode cX7_oftenAt 69 = .ok (.iload_n 2, 1) := by decide +kernel
theorem dX7_oftenAt_70 : decode cX7_oftenAt 70 = .ok (.aload_n 0, 1) := by decide +kernel
theorem dX7_oftenAt_71 : decode cX7_oftenAt 71 = .ok (.getfield 7, 3) := by decide +kernel
theorem dX7_oftenAt_74 : decode cX7_oftenAt 74 = .ok (.if_icmp .ne 12, 3) := by decide +kernel
theorem dX7_oftenAt_77 : decode cX7_oftenAt 77 = .ok (.aload_n 0, 1) := by decide +kernel
theorem dX7_oftenAt_78 : decode cX7_oftenAt 78 = .ok (.getfield 36, 3) := by decide +kernel
theorem dX7_oftenAt_81 : decode cX7_oftenAt 81 = .ok (.iconst 0, 1) := by decide +kernel
theorem dX7_oftenAt_82 : decode cX7_oftenAt 82 = .ok (.iaload, 1) := by decide +kernel
theorem dX7_oftenAt_83 : decode cX7_oftenAt 83 = .ok (.goto 4, 3) := by decide +kernel
theorem dX7_oftenAt_86 : decode cX7_oftenAt 86 = .ok (.iconst 0, 1) := by decide +kernel
theorem dX7_oftenAt_87 : decode cX7_oftenAt 87 = .ok (.istore 6, 2) := by decide +kernel
theorem dX7_oftenAt_89 : decode cX7_oftenAt 89 = .ok (.iconst 0, 1) := by decide +kernel
theorem dX7_oftenAt_90 : decode cX7_oftenAt 90 = .ok (.istore 7, 2) := by decide +kernel
theorem dX7_oftenAt_92 : decode cX7_oftenAt 92 = .ok (.iload 7, 2) := by decide +kernel
theorem dX7_oftenAt_94 : decode cX7_oftenAt 94 = .ok (.iload_n 3, 1) := by decide +kernel
theorem dX7_oftenAt_95 : decode cX7_oftenAt 95 = .ok (.if_icmp .gt 44, 3) := by decide +kernel
theorem dX7_oftenAt_98 : decode cX7_oftenAt 98 = .ok (.iload_n 2, 1) := by decide +kernel
theorem dX7_oftenAt_99 : decode cX7_oftenAt 99 = .ok (.aload_n 0, 1) := by decide +kernel
theorem dX7_oftenAt_100 : decode cX7_oftenAt 100 = .ok (.getfield 7, 3) := by decide +kernel
theorem dX7_oftenAt_103 : decode cX7_oftenAt 103 = .ok (.if_icmp .ge 36, 3) := by decide +kernel
theorem dX7_oftenAt_106 : decode cX7_oftenAt 106 = .ok (.aload_n 0, 1) := by decide +kernel
theorem dX7_oftenAt_107 : decode cX7_oftenAt 107 = .ok (.aload_n 0, 1) := by decide +kernel
theorem dX7_oftenAt_108 : decode cX7_oftenAt 108 = .ok (.getfield 36, 3) := by decide +kernel
theorem dX7_oftenAt_111 : decode cX7_oftenAt 111 = .ok (.iload 7, 2) := by decide +kernel
theorem dX7_oftenAt_113 : decode cX7_oftenAt 113 = .ok (.iaload, 1) := by decide +kernel
theorem dX7_oftenAt_114 : decode cX7_oftenAt 114 = .ok (.iload_n 2, 1) := by decide +kernel
theorem dX7_oftenAt_115 : decode cX7_oftenAt 115 = .ok (.iload 6, 2) := by decide +kernel
theorem dX7_oftenAt_117 : decode cX7_oftenAt 117 = .ok (.imul, 1) := by decide +kernel
theorem dX7_oftenAt_118 : decode cX7_oftenAt 118 = .ok (.iadd, 1) := by decide +kernel
theorem dX7_oftenAt_119 : decode cX7_oftenAt 119 = .ok (.invokevirtual 88, 3) := by decide +kernel
theorem dX7_oftenAt_122 : decode cX7_oftenAt 122 = .ok (.istore 6, 2) := by decide +kernel
theorem dX7_oftenAt_124 : decode cX7_oftenAt 124 = .ok (.aload_n 0, 1) := by decide +kernel
theorem dX7_oftenAt_125 : decode cX7_oftenAt 125 = .ok (.getfield 36, 3) := by decide +kernel
theorem dX7_oftenAt_128 : decode cX7_oftenAt 128 = .ok (.iload 7, 2) := by decide +kernel
theorem dX7_oftenAt_130 : decode cX7_oftenAt 130 = .ok (.iload 6, 2) := by decide +kernel
theorem dX7_oftenAt_132 : decode cX7_oftenAt 132 = .ok (.iastore, 1) := by decide +kernel
theorem dX7_oftenAt_133 : decode cX7_oftenAt 133 = .ok (.iinc 7 1, 3) := by decide +kernel
theorem dX7_oftenAt_136 : decode cX7_oftenAt 136 = .ok (.goto (-44), 3) := by decide +kernel
theorem dX7_oftenAt_139 : decode cX7_oftenAt 139 = .ok (.iload 6, 2) := by decide +kernel
theorem dX7_oftenAt_141 : decode cX7_oftenAt 141 = .ok (.ifCond .ne 7, 3) := by decide +kernel
theorem dX7_oftenAt_144 : decode cX7_oftenAt 144 = .ok (.iconst 1, 1) := by decide +kernel
theorem dX7_oftenAt_145 : decode cX7_oftenAt 145 = .ok (.goto 4, 3) := by decide +kernel
theorem dX7_oftenAt_148 : decode cX7_oftenAt 148 = .ok (.iconst 0, 1) := by decide +kernel
theorem dX7_oftenAt_149 : decode cX7_oftenAt 149 = .ok (.istore 5, 2) := by decide +kernel
theorem dX7_oftenAt_151 : decode cX7_oftenAt 151 = .ok (.iconst 0, 1) := by decide +kernel
theorem dX7_oftenAt_152 : decode cX7_oftenAt 152 = .ok (.istore 7, 2) := by decide +kernel
theorem dX7_oftenAt_154 : decode cX7_oftenAt 154 = .ok (.iload 7, 2) := by decide +kernel
theorem dX7_oftenAt_156 : decode cX7_oftenAt 156 = .ok (.iload_n 3, 1) := by decide +kernel
theorem dX7_oftenAt_157 : decode cX7_oftenAt 157 = .ok (.if_icmp .ge 38, 3) := by decide +kernel
theorem dX7_oftenAt_160 : decode cX7_oftenAt 160 = .ok (.iload 5, 2) := by decide +kernel
theorem dX7_oftenAt_162 : decode cX7_oftenAt 162 = .ok (.ifCond .eq 33, 3) := by decide +kernel
theorem dX7_oftenAt_165 : decode cX7_oftenAt 165 = .ok (.iload_n 2, 1) := by decide +kernel
theorem dX7_oftenAt_166 : decode cX7_oftenAt 166 = .ok (.aload_n 0, 1) := by decide +kernel
theorem dX7_oftenAt_167 : decode cX7_oftenAt 167 = .ok (.getfield 7, 3) := by decide +kernel
theorem dX7_oftenAt_170 : decode cX7_oftenAt 170 = .ok (.if_icmp .ne 25, 3) := by decide +kernel
theorem dX7_oftenAt_173 : decode cX7_oftenAt 173 = .ok (.aload_n 0, 1) := by decide +kernel
theorem dX7_oftenAt_174 : decode cX7_oftenAt 174 = .ok (.getfield 36, 3) := by decide +kernel
theorem dX7_oftenAt_177 : decode cX7_oftenAt 177 = .ok (.iload 7, 2) := by decide +kernel
theorem dX7_oftenAt_179 : decode cX7_oftenAt 179 = .ok (.aload_n 0, 1) := by decide +kernel
theorem dX7_oftenAt_180 : decode cX7_oftenAt 180 = .ok (.getfield 36, 3) := by decide +kernel
theorem dX7_oftenAt_183 : decode cX7_oftenAt 183 = .ok (.iload 7, 2) := by decide +kernel
theorem dX7_oftenAt_185 : decode cX7_oftenAt 185 = .ok (.iconst 1, 1) := by decide +kernel
theorem dX7_oftenAt_186 : decode cX7_oftenAt 186 = .ok (.iadd, 1) := by decide +kernel
theorem dX7_oftenAt_187 : decode cX7_oftenAt 187 = .ok (.iaload, 1) := by decide +kernel
theorem dX7_oftenAt_188 : decode cX7_oftenAt 188 = .ok (.iastore, 1) := by decide +kernel
theorem dX7_oftenAt_189 : decode cX7_oftenAt 189 = .ok (.iinc 7 1, 3) := by decide +kernel
theorem dX7_oftenAt_192 : decode cX7_oftenAt 192 = .ok (.goto (-38), 3) := by decide +kernel
theorem dX7_oftenAt_195 : decode cX7_oftenAt 195 = .ok (.iload 4, 2) := by decide +kernel
theorem dX7_oftenAt_197 : decode cX7_oftenAt 197 = .ok (.iload 5, 2) := by decide +kernel
theorem dX7_oftenAt_199 : decode cX7_oftenAt 199 = .ok (.ifCond .eq 7, 3) := by decide +kernel
theorem dX7_oftenAt_202 : decode cX7_oftenAt 202 = .ok (.iconst 1, 1) := by decide +kernel
theorem dX7_oftenAt_203 : decode cX7_oftenAt 203 = .ok (.goto 4, 3) := by decide +kernel
theorem dX7_oftenAt_206 : decode cX7_oftenAt 206 = .ok (.iconst 0, 1) := by decide +kernel
theorem dX7_oftenAt_207 : decode cX7_oftenAt 207 = .ok (.iadd, 1) := by decide +kernel
theorem dX7_oftenAt_208 : decode cX7_oftenAt 208 = .ok (.istore 4, 2) := by decide +kernel
theorem dX7_oftenAt_210 : decode cX7_oftenAt 210 = .ok (.iinc 3 (-1), 3) := by decide +kernel
theorem dX7_oftenAt_213 : decode cX7_oftenAt 213 = .ok (.goto (-153), 3) := by decide +kernel
theorem dX7_oftenAt_216 : decode cX7_oftenAt 216 = .ok (.iload 4, 2) := by decide +kernel
theorem dX7_oftenAt_218 : decode cX7_oftenAt 218 = .ok (.ireturn, 1) := by decide +kernel
set_option maxRecDepth 20000 in
theorem ggX7_multiplicity_X7_isForm : GoodIn wsX7_multiplicity wsX7_isForm := goodIn_r _ [6, 7, 8, 9, 5, 10, 35, 36, 37, 38, 39, 40, 41, 42, 43, 44, 45, 46, 47, 48, 49, 50, 51, 52, 53, 54, 55, 56] (by decide +kernel) (by decide +kernel)
set_option maxRecDepth 20000 in
theorem gX7_multiplicity_X7_isForm : GoodIn wsX7_multiplicity (wsV RX7 91 RX7 yX7_isForm wsX7_isForm) := goodIn_app (goodIn_of _ (by decide +kernel)) ggX7_multiplicity_X7_isForm
set_option maxRecDepth 20000 in
theorem ggX7_multiplicity_X7_isIn : GoodIn wsX7_multiplicity wsX7_isIn := goodIn_r _ [10] (by decide +kernel) (by decide +kernel)
set_option maxRecDepth 20000 in
theorem gX7_multiplicity_X7_isIn : GoodIn wsX7_multiplicity (va_wsS RX7 66 yX7_isIn wsX7_isIn) := goodIn_app (goodIn_of _ (by decide +kernel)) ggX7_multiplicity_X7_isIn
set_option maxRecDepth 20000 in
theorem ggX7_multiplicity_X7_holds : GoodIn wsX7_multiplicity wsX7_holds := goodIn_r _ [14, 15, 35, 36, 37, 38, 39, 40, 41, 42, 43, 44, 45, 46, 47, 48, 49, 50, 51, 52, 53, 54, 55, 56] (by decide +kernel) (by decide +kernel)
set_option maxRecDepth 20000 in
theorem gX7_multiplicity_X7_holds : GoodIn wsX7_multiplicity (wsV RX7 74 RX7 yX7_holds wsX7_holds) := goodIn_app (goodIn_of _ (by decide +kernel)) ggX7_multiplicity_X7_holds
set_option maxRecDepth 20000 in
theorem ggX7_multiplicity_X7_oftenAt : GoodIn wsX7_multiplicity wsX7_oftenAt := goodIn_r _ [19, 20, 21, 22, 1, 23, 24, 25, 5, 26, 27, 28, 29, 30, 31, 32, 33, 34, 35, 36, 37, 38, 39, 40, 41, 42, 43, 44, 45, 46, 47, 48, 49, 50, 51, 52, 53, 54, 55, 56] (by decide +kernel) (by decide +kernel)
set_option maxRecDepth 20000 in
theorem gX7_multiplicity_X7_oftenAt : GoodIn wsX7_multiplicity (wsV RX7 101 RX7 yX7_oftenAt wsX7_oftenAt) := goodIn_app (goodIn_of _ (by decide +kernel)) ggX7_multiplicity_X7_oftenAt
theorem dX7_multiplicity_0 : decode cX7_multiplicity 0 = .ok (.aload_n 0, 1) := by decide +kernel
theorem dX7_multiplicity_1 : decode cX7_multiplicity 1 = .ok (.aload_n 0, 1) := by decide +kernel
theorem dX7_multiplicity_2 : decode cX7_multiplicity 2 = .ok (.iload_n 1, 1) := by decide +kernel
theorem dX7_multiplicity_3 : decode cX7_multiplicity 3 = .ok (.invokevirtual 91, 3) := by decide +kernel
theorem dX7_multiplicity_6 : decode cX7_multiplicity 6 = .ok (.ifCond .eq 19, 3) := by decide +kernel
theorem dX7_multiplicity_9 : decode cX7_multiplicity 9 = .ok (.iload_n 2, 1) := by decide +kernel
theorem dX7_multiplicity_10 : decode cX7_multiplicity 10 = .ok (.iconst 0, 1) := by decide +kernel
theorem dX7_multiplicity_11 : decode cX7_multiplicity 11 = .ok (.aload_n 0, 1) := by decide +kernel
theorem dX7_multiplicity_12 : decode cX7_multiplicity 12 = .ok (.getfield 7, 3) := by decide +kernel
theorem dX7_multiplicity_15 : decode cX7_multiplicity 15 = .ok (.invokestatic 66, 3) := by decide +kernel
theorem dX7_multiplicity_18 : decode cX7_multiplicity 18 = .ok (.ifCond .eq 7, 3) := by decide +kernel
theorem dX7_multiplicity_21 : decode cX7_multiplicity 21 = .ok (.iconst 0, 1) := by decide +kernel
theorem dX7_multiplicity_22 : decode cX7_multiplicity 22 = .ok (.goto 4, 3) := by decide +kernel
theorem dX7_multiplicity_25 : decode cX7_multiplicity 25 = .ok (.iconst 1, 1) := by decide +kernel
theorem dX7_multiplicity_26 : decode cX7_multiplicity 26 = .ok (.invokevirtual 74, 3) := by decide +kernel
theorem dX7_multiplicity_29 : decode cX7_multiplicity 29 = .ok (.ifCond .eq 12, 3) := by decide +kernel
theorem dX7_multiplicity_32 : decode cX7_multiplicity 32 = .ok (.aload_n 0, 1) := by decide +kernel
theorem dX7_multiplicity_33 : decode cX7_multiplicity 33 = .ok (.iload_n 1, 1) := by decide +kernel
theorem dX7_multiplicity_34 : decode cX7_multiplicity 34 = .ok (.iload_n 2, 1) := by decide +kernel
theorem dX7_multiplicity_35 : decode cX7_multiplicity 35 = .ok (.invokevirtual 101, 3) := by decide +kernel
theorem dX7_multiplicity_38 : decode cX7_multiplicity 38 = .ok (.goto 4, 3) := by decide +kernel
theorem dX7_multiplicity_41 : decode cX7_multiplicity 41 = .ok (.iconst 0, 1) := by decide +kernel
theorem dX7_multiplicity_42 : decode cX7_multiplicity 42 = .ok (.ireturn, 1) := by decide +kernel
set_option maxRecDepth 20000 in
theorem ggX7_roots_X7_oftenAt : GoodIn wsX7_roots wsX7_oftenAt := goodIn_r _ [6, 7, 8, 9, 1, 10, 11, 12, 5, 13, 14, 15, 16, 17, 18, 19, 20, 21, 22, 23, 24, 25, 26, 27, 28, 29, 30, 31, 32, 33, 34, 35, 36, 37, 38, 39, 40, 41, 42, 43] (by decide +kernel) (by decide +kernel)
set_option maxRecDepth 20000 in
theorem gX7_roots_X7_oftenAt : GoodIn wsX7_roots (wsV RX7 101 RX7 yX7_oftenAt wsX7_oftenAt) := goodIn_app (goodIn_of _ (by decide +kernel)) ggX7_roots_X7_oftenAt
theorem dX7_roots_0 : decode cX7_roots 0 = .ok (.iconst 0, 1) := by decide +kernel
theorem dX7_roots_1 : decode cX7_roots 1 = .ok (.istore_n 2, 1) := by decide +kernel
theorem dX7_roots_2 : decode cX7_roots 2 = .ok (.iconst 0, 1) := by decide +kernel
theorem dX7_roots_3 : decode cX7_roots 3 = .ok (.istore_n 3, 1) := by decide +kernel
theorem dX7_roots_4 : decode cX7_roots 4 = .ok (.iload_n 3, 1) := by decide +kernel
theorem dX7_roots_5 : decode cX7_roots 5 = .ok (.aload_n 0, 1) := by decide +kernel
theorem dX7_roots_6 : decode cX7_roots 6 = .ok (.getfield 7, 3) := by decide +kernel
theorem dX7_roots_9 : decode cX7_roots 9 = .ok (.if_icmp .gt 26, 3) := by decide +kernel
theorem dX7_roots_12 : decode cX7_roots 12 = .ok (.iload_n 2, 1) := by decide +kernel
theorem dX7_roots_13 : decode cX7_roots 13 = .ok (.aload_n 0, 1) := by decide +kernel
theorem dX7_roots_14 : decode cX7_roots 14 = .ok (.iload_n 1, 1) := by decide +kernel
theorem dX7_roots_15 : decode cX7_roots 15 = .ok (.iload_n 3, 1) := by decide +kernel
theorem dX7_roots_16 : decode cX7_roots 16 = .ok (.invokevirtual 101, 3) := by decide +kernel
theorem dX7_roots_19 : decode cX7_roots 19 = .ok (.ifCond .le 7, 3) := by decide +kernel
theorem dX7_roots_22 : decode cX7_roots 22 = .ok (.iconst 1, 1) := by decide +kernel
theorem dX7_roots_23 : decode cX7_roots 23 = .ok (.goto 4, 3) := by decide +kernel
theorem dX7_roots_26 : decode cX7_roots 26 = .ok (.iconst 0, 1) := by decide +kernel
theorem dX7_roots_27 : decode cX7_roots 27 = .ok (.iadd, 1) := by decide +kernel
theorem dX7_roots_28 : decode cX7_roots 28 = .ok (.istore_n 2, 1) := by decide +kernel
theorem dX7_roots_29 : decode cX7_roots 29 = .ok (.iinc 3 1, 3) := by decide +kernel
theorem dX7_roots_32 : decode cX7_roots 32 = .ok (.goto (-28), 3) := by decide +kernel
theorem dX7_roots_35 : decode cX7_roots 35 = .ok (.iload_n 2, 1) := by decide +kernel
theorem dX7_roots_36 : decode cX7_roots 36 = .ok (.ireturn, 1) := by decide +kernel
set_option maxRecDepth 20000 in
theorem ggX7_isNull_X7_oftenAt : GoodIn wsX7_isNull wsX7_oftenAt := goodIn_r _ [7, 2, 8, 9, 1, 10, 11, 12, 6, 13, 14, 15, 16, 17, 18, 19, 20, 21, 22, 23, 24, 25, 26, 27, 28, 29, 30, 31, 32, 33, 34, 35, 36, 37, 38, 39, 40, 41, 42, 43] (by decide +kernel) (by decide +kernel)
set_option maxRecDepth 20000 in
theorem gX7_isNull_X7_oftenAt : GoodIn wsX7_isNull (wsV RX7 101 RX7 yX7_oftenAt wsX7_oftenAt) := goodIn_app (goodIn_of _ (by decide +kernel)) ggX7_isNull_X7_oftenAt
theorem dX7_isNull_0 : decode cX7_isNull 0 = .ok (.iconst 0, 1) := by decide +kernel
theorem dX7_isNull_1 : decode cX7_isNull 1 = .ok (.istore_n 2, 1) := by decide +kernel
theorem dX7_isNull_2 : decode cX7_isNull 2 = .ok (.iconst 0, 1) := by decide +kernel
theorem dX7_isNull_3 : decode cX7_isNull 3 = .ok (.istore_n 3, 1) := by decide +kernel
theorem dX7_isNull_4 : decode cX7_isNull 4 = .ok (.iload_n 3, 1) := by decide +kernel
theorem dX7_isNull_5 : decode cX7_isNull 5 = .ok (.aload_n 0, 1) := by decide +kernel
theorem dX7_isNull_6 : decode cX7_isNull 6 = .ok (.getfield 7, 3) := by decide +kernel
theorem dX7_isNull_9 : decode cX7_isNull 9 = .ok (.if_icmp .gt 32, 3) := by decide +kernel
theorem dX7_isNull_12 : decode cX7_isNull 12 = .ok (.iconst 2, 1) := by decide +kernel
theorem dX7_isNull_13 : decode cX7_isNull 13 = .ok (.aload_n 0, 1) := by decide +kernel
theorem dX7_isNull_14 : decode cX7_isNull 14 = .ok (.iload_n 1, 1) := by decide +kernel
theorem dX7_isNull_15 : decode cX7_isNull 15 = .ok (.iload_n 3, 1) := by decide +kernel
theorem dX7_isNull_16 : decode cX7_isNull 16 = .ok (.invokevirtual 101, 3) := by decide +kernel
theorem dX7_isNull_19 : decode cX7_isNull 19 = .ok (.imul, 1) := by decide +kernel
theorem dX7_isNull_20 : decode cX7_isNull 20 = .ok (.aload_n 0, 1) := by decide +kernel
theorem dX7_isNull_21 : decode cX7_isNull 21 = .ok (.getfield 13, 3) := by decide +kernel
theorem dX7_isNull_24 : decode cX7_isNull 24 = .ok (.iload_n 1, 1) := by decide +kernel
theorem dX7_isNull_25 : decode cX7_isNull 25 = .ok (.iaload, 1) := by decide +kernel
theorem dX7_isNull_26 : decode cX7_isNull 26 = .ok (.if_icmp .le 7, 3) := by decide +kernel
theorem dX7_isNull_29 : decode cX7_isNull 29 = .ok (.iconst 1, 1) := by decide +kernel
theorem dX7_isNull_30 : decode cX7_isNull 30 = .ok (.goto 4, 3) := by decide +kernel
theorem dX7_isNull_33 : decode cX7_isNull 33 = .ok (.iload_n 2, 1) := by decide +kernel
theorem dX7_isNull_34 : decode cX7_isNull 34 = .ok (.istore_n 2, 1) := by decide +kernel
theorem dX7_isNull_35 : decode cX7_isNull 35 = .ok (.iinc 3 1, 3) := by decide +kernel
theorem dX7_isNull_38 : decode cX7_isNull 38 = .ok (.goto (-34), 3) := by decide +kernel
theorem dX7_isNull_41 : decode cX7_isNull 41 = .ok (.iload_n 2, 1) := by decide +kernel
theorem dX7_isNull_42 : decode cX7_isNull 42 = .ok (.ireturn, 1) := by decide +kernel
set_option maxRecDepth 20000 in
theorem ggX7_generator_X7_isNumber : GoodIn wsX7_generator wsX7_isNumber := goodIn_r _ [7, 8, 9, 10, 6, 11, 21, 22, 23, 24, 25, 26, 27, 28, 29, 30, 31, 32, 33, 34, 35, 36, 37, 38, 39, 40, 41, 42] (by decide +kernel) (by decide +kernel)
set_option maxRecDepth 20000 in
theorem gX7_generator_X7_isNumber : GoodIn wsX7_generator (wsV RX7 94 RX7 yX7_isNumber wsX7_isNumber) := goodIn_app (goodIn_of _ (by decide +kernel)) ggX7_generator_X7_isNumber
set_option maxRecDepth 20000 in
theorem ggX7_generator_X7_mod : GoodIn wsX7_generator wsX7_mod := goodIn_r _ [15, 8, 21, 22, 23, 24, 25, 26, 27, 28, 29, 30, 31, 32, 33, 34, 35, 36, 37, 38, 39, 40, 41, 42] (by decide +kernel) (by decide +kernel)
set_option maxRecDepth 20000 in
theorem gX7_generator_X7_mod : GoodIn wsX7_generator (wsV RX7 88 RX7 yX7_mod wsX7_mod) := goodIn_app (goodIn_of _ (by decide +kernel)) ggX7_generator_X7_mod
set_option maxRecDepth 20000 in
theorem ggX7_generator_X7_holds : GoodIn wsX7_generator wsX7_holds := goodIn_r _ [19, 20, 21, 22, 23, 24, 25, 26, 27, 28, 29, 30, 31, 32, 33, 34, 35, 36, 37, 38, 39, 40, 41, 42] (by decide +kernel) (by decide +kernel)
set_option maxRecDepth 20000 in
theorem gX7_generator_X7_holds : GoodIn wsX7_generator (wsV RX7 74 RX7 yX7_holds wsX7_holds) := goodIn_app (goodIn_of _ (by decide +kernel)) ggX7_generator_X7_holds
theorem dX7_generator_0 : decode cX7_generator 0 = .ok (.aload_n 0, 1) := by decide +kernel
theorem dX7_generator_1 : decode cX7_generator 1 = .ok (.iload_n 1, 1) := by decide +kernel
theorem dX7_generator_2 : decode cX7_generator 2 = .ok (.invokevirtual 94, 3) := by decide +kernel
theorem dX7_generator_5 : decode cX7_generator 5 = .ok (.ifCond .eq 32, 3) := by decide +kernel
theorem dX7_generator_8 : decode cX7_generator 8 = .ok (.aload_n 0, 1) := by decide +kernel
theorem dX7_generator_9 : decode cX7_generator 9 = .ok (.iload_n 2, 1) := by decide +kernel
theorem dX7_generator_10 : decode cX7_generator 10 = .ok (.invokevirtual 94, 3) := by decide +kernel
theorem dX7_generator_13 : decode cX7_generator 13 = .ok (.ifCond .eq 24, 3) := by decide +kernel
theorem dX7_generator_16 : decode cX7_generator 16 = .ok (.aload_n 0, 1) := by decide +kernel
theorem dX7_generator_17 : decode cX7_generator 17 = .ok (.iload_n 3, 1) := by decide +kernel
theorem dX7_generator_18 : decode cX7_generator 18 = .ok (.invokevirtual 94, 3) := by decide +kernel
theorem dX7_generator_21 : decode cX7_generator 21 = .ok (.ifCond .eq 16, 3) := by decide +kernel
theorem dX7_generator_24 : decode cX7_generator 24 = .ok (.aload_n 0, 1) := by decide +kernel
theorem dX7_generator_25 : decode cX7_generator 25 = .ok (.iload 4, 2) := by decide +kernel
theorem dX7_generator_27 : decode cX7_generator 27 = .ok (.invokevirtual 94, 3) := by decide +kernel
theorem dX7_generator_30 : decode cX7_generator 30 = .ok (.ifCond .eq 7, 3) := by decide +kernel
theorem dX7_generator_33 : decode cX7_generator 33 = .ok (.iconst 1, 1) := by decide +kernel
theorem dX7_generator_34 : decode cX7_generator 34 = .ok (.goto 4, 3) := by decide +kernel
theorem dX7_generator_37 : decode cX7_generator 37 = .ok (.iconst 0, 1) := by decide +kernel
theorem dX7_generator_38 : decode cX7_generator 38 = .ok (.istore 5, 2) := by decide +kernel
theorem dX7_generator_40 : decode cX7_generator 40 = .ok (.aload_n 0, 1) := by decide +kernel
theorem dX7_generator_41 : decode cX7_generator 41 = .ok (.iload 5, 2) := by decide +kernel
theorem dX7_generator_43 : decode cX7_generator 43 = .ok (.ifCond .eq 18, 3) := by decide +kernel
theorem dX7_generator_46 : decode cX7_generator 46 = .ok (.aload_n 0, 1) := by decide +kernel
theorem dX7_generator_47 : decode cX7_generator 47 = .ok (.iload_n 1, 1) := by decide +kernel
theorem dX7_generator_48 : decode cX7_generator 48 = .ok (.iload 4, 2) := by decide +kernel
theorem dX7_generator_50 : decode cX7_generator 50 = .ok (.imul, 1) := by decide +kernel
theorem dX7_generator_51 : decode cX7_generator 51 = .ok (.iload_n 2, 1) := by decide +kernel
theorem dX7_generator_52 : decode cX7_generator 52 = .ok (.iload_n 3, 1) := by decide +kernel
theorem dX7_generator_53 : decode cX7_generator 53 = .ok (.imul, 1) := by decide +kernel
theorem dX7_generator_54 : decode cX7_generator 54 = .ok (.isub, 1) := by decide +kernel
theorem dX7_generator_55 : decode cX7_generator 55 = .ok (.invokevirtual 88, 3) := by decide +kernel
theorem dX7_generator_58 : decode cX7_generator 58 = .ok (.ifCond .ne 7, 3) := by decide +kernel
theorem dX7_generator_61 : decode cX7_generator 61 = .ok (.iconst 1, 1) := by decide +kernel
theorem dX7_generator_62 : decode cX7_generator 62 = .ok (.goto 16, 3) := by decide +kernel
theorem dX7_generator_65 : decode cX7_generator 65 = .ok (.aload_n 0, 1) := by decide +kernel
theorem dX7_generator_66 : decode cX7_generator 66 = .ok (.getfield 78, 3) := by decide +kernel
theorem dX7_generator_69 : decode cX7_generator 69 = .ok (.iconst 4, 1) := by decide +kernel
theorem dX7_generator_70 : decode cX7_generator 70 = .ok (.if_icmp .ne 7, 3) := by decide +kernel
theorem dX7_generator_73 : decode cX7_generator 73 = .ok (.iconst 2, 1) := by decide +kernel
theorem dX7_generator_74 : decode cX7_generator 74 = .ok (.goto 4, 3) := by decide +kernel
theorem dX7_generator_77 : decode cX7_generator 77 = .ok (.iconst 0, 1) := by decide +kernel
theorem dX7_generator_78 : decode cX7_generator 78 = .ok (.invokevirtual 74, 3) := by decide +kernel
theorem dX7_generator_81 : decode cX7_generator 81 = .ok (.ifCond .ne 5, 3) := by decide +kernel
theorem dX7_generator_84 : decode cX7_generator 84 = .ok (.iconst 0, 1) := by decide +kernel
theorem dX7_generator_85 : decode cX7_generator 85 = .ok (.ireturn, 1) := by decide +kernel
theorem dX7_generator_86 : decode cX7_generator 86 = .ok (.iconst 4, 1) := by decide +kernel
theorem dX7_generator_87 : decode cX7_generator 87 = .ok (.aload_n 0, 1) := by decide +kernel
theorem dX7_generator_88 : decode cX7_generator 88 = .ok (.getfield 78, 3) := by decide +kernel
theorem dX7_generator_91 : decode cX7_generator 91 = .ok (.imul, 1) := by decide +kernel
theorem dX7_generator_92 : decode cX7_generator 92 = .ok (.istore 6, 2) := by decide +kernel
theorem dX7_generator_94 : decode cX7_generator 94 = .ok (.aload_n 0, 1) := by decide +kernel
theorem dX7_generator_95 : decode cX7_generator 95 = .ok (.getfield 20, 3) := by decide +kernel
theorem dX7_generator_98 : decode cX7_generator 98 = .ok (.iload 6, 2) := by decide +kernel
theorem dX7_generator_100 : decode cX7_generator 100 = .ok (.iload_n 1, 1) := by decide +kernel
theorem dX7_generator_101 : decode cX7_generator 101 = .ok (.iastore, 1) := by decide +kernel
theorem dX7_generator_102 : decode cX7_generator 102 = .ok (.aload_n 0, 1) := by decide +kernel
theorem dX7_generator_103 : decode cX7_generator 103 = .ok (.getfield 20, 3) := by decide +kernel
theorem dX7_generator_106 : decode cX7_generator 106 = .ok (.iload 6, 2) := by decide +kernel
theorem dX7_generator_108 : decode cX7_generator 108 = .ok (.iconst 1, 1) := by decide +kernel
theorem dX7_generator_109 : decode cX7_generator 109 = .ok (.iadd, 1) := by decide +kernel
theorem dX7_generator_110 : decode cX7_generator 110 = .ok (.iload_n 2, 1) := by decide +kernel
theorem dX7_generator_111 : decode cX7_generator 111 = .ok (.iastore, 1) := by decide +kernel
theorem dX7_generator_112 : decode cX7_generator 112 = .ok (.aload_n 0, 1) := by decide +kernel
theorem dX7_generator_113 : decode cX7_generator 113 = .ok (.getfield 20, 3) := by decide +kernel
theorem dX7_generator_116 : decode cX7_generator 116 = .ok (.iload 6, 2) := by decide +kernel
theorem dX7_generator_118 : decode cX7_generator 118 = .ok (.iconst 2, 1) := by decide +kernel
theorem dX7_generator_119 : decode cX7_generator 119 = .ok (.iadd, 1) := by decide +kernel
theorem dX7_generator_120 : decode cX7_generator 120 = .ok (.iload_n 3, 1) := by decide +kernel
theorem dX7_generator_121 : decode cX7_generator 121 = .ok (.iastore, 1) := by decide +kernel
theorem dX7_generator_122 : decode cX7_generator 122 = .ok (.aload_n 0, 1) := by decide +kernel
theorem dX7_generator_123 : decode cX7_generator 123 = .ok (.getfield 20, 3) := by decide +kernel
theorem dX7_generator_126 : decode cX7_generator 126 = .ok (.iload 6, 2) := by decide +kernel
theorem dX7_generator_128 : decode cX7_generator 128 = .ok (.iconst 3, 1) := by decide +kernel
theorem dX7_generator_129 : decode cX7_generator 129 = .ok (.iadd, 1) := by decide +kernel
theorem dX7_generator_130 : decode cX7_generator 130 = .ok (.iload 4, 2) := by decide +kernel
theorem dX7_generator_132 : decode cX7_generator 132 = .ok (.iastore, 1) := by decide +kernel
theorem dX7_generator_133 : decode cX7_generator 133 = .ok (.aload_n 0, 1) := by decide +kernel
theorem dX7_generator_134 : decode cX7_generator 134 = .ok (.dup, 1) := by decide +kernel
theorem dX7_generator_135 : decode cX7_generator 135 = .ok (.getfield 78, 3) := by decide +kernel
theorem dX7_generator_138 : decode cX7_generator 138 = .ok (.iconst 1, 1) := by decide +kernel
theorem dX7_generator_139 : decode cX7_generator 139 = .ok (.iadd, 1) := by decide +kernel
theorem dX7_generator_140 : decode cX7_generator 140 = .ok (.putfield 78, 3) := by decide +kernel
theorem dX7_generator_143 : decode cX7_generator 143 = .ok (.aload_n 0, 1) := by decide +kernel
theorem dX7_generator_144 : decode cX7_generator 144 = .ok (.getfield 78, 3) := by decide +kernel
theorem dX7_generator_147 : decode cX7_generator 147 = .ok (.iconst 1, 1) := by decide +kernel
theorem dX7_generator_148 : decode cX7_generator 148 = .ok (.isub, 1) := by decide +kernel
theorem dX7_generator_149 : decode cX7_generator 149 = .ok (.ireturn, 1) := by decide +kernel
theorem dX7_joins_0 : decode cX7_joins 0 = .ok (.aload_n 0, 1) := by decide +kernel
theorem dX7_joins_1 : decode cX7_joins 1 = .ok (.getfield 23, 3) := by decide +kernel
theorem dX7_joins_4 : decode cX7_joins 4 = .ok (.iload_n 1, 1) := by decide +kernel
theorem dX7_joins_5 : decode cX7_joins 5 = .ok (.baload, 1) := by decide +kernel
theorem dX7_joins_6 : decode cX7_joins 6 = .ok (.ifCond .ne 30, 3) := by decide +kernel
theorem dX7_joins_9 : decode cX7_joins 9 = .ok (.aload_n 0, 1) := by decide +kernel
theorem dX7_joins_10 : decode cX7_joins 10 = .ok (.getfield 23, 3) := by decide +kernel
theorem dX7_joins_13 : decode cX7_joins 13 = .ok (.iload_n 1, 1) := by decide +kernel
theorem dX7_joins_14 : decode cX7_joins 14 = .ok (.iconst 1, 1) := by decide +kernel
theorem dX7_joins_15 : decode cX7_joins 15 = .ok (.bastore, 1) := by decide +kernel
theorem dX7_joins_16 : decode cX7_joins 16 = .ok (.aload_n 0, 1) := by decide +kernel
theorem dX7_joins_17 : decode cX7_joins 17 = .ok (.getfield 27, 3) := by decide +kernel
theorem dX7_joins_20 : decode cX7_joins 20 = .ok (.aload_n 0, 1) := by decide +kernel
theorem dX7_joins_21 : decode cX7_joins 21 = .ok (.getfield 104, 3) := by decide +kernel
theorem dX7_joins_24 : decode cX7_joins 24 = .ok (.iload_n 1, 1) := by decide +kernel
theorem dX7_joins_25 : decode cX7_joins 25 = .ok (.iastore, 1) := by decide +kernel
theorem dX7_joins_26 : decode cX7_joins 26 = .ok (.aload_n 0, 1) := by decide +kernel
theorem dX7_joins_27 : decode cX7_joins 27 = .ok (.dup, 1) := by decide +kernel
theorem dX7_joins_28 : decode cX7_joins 28 = .ok (.getfield 104, 3) := by decide +kernel
theorem dX7_joins_31 : decode cX7_joins 31 = .ok (.iconst 1, 1) := by decide +kernel
theorem dX7_joins_32 : decode cX7_joins 32 = .ok (.iadd, 1) := by decide +kernel
theorem dX7_joins_33 : decode cX7_joins 33 = .ok (.putfield 104, 3) := by decide +kernel
theorem dX7_joins_36 : decode cX7_joins 36 = .ok (.return_, 1) := by decide +kernel
set_option maxRecDepth 20000 in
theorem ggX7_behind_X7_figure : GoodIn wsX7_behind wsX7_figure := goodIn_r _ [7, 2, 8, 9, 10, 6, 11, 16, 17, 18, 19, 20, 21, 22, 23, 24, 25, 26, 27, 28, 29, 30, 31, 32, 33, 34, 35, 36, 37] (by decide +kernel) (by decide +kernel)
set_option maxRecDepth 20000 in
theorem gX7_behind_X7_figure : GoodIn wsX7_behind (wsV RX7 84 RX7 yX7_figure wsX7_figure) := goodIn_app (goodIn_of _ (by decide +kernel)) ggX7_behind_X7_figure
set_option maxRecDepth 20000 in
theorem ggX7_behind_X7_mod : GoodIn wsX7_behind wsX7_mod := goodIn_r _ [15, 2, 16, 17, 18, 19, 20, 21, 22, 23, 24, 25, 26, 27, 28, 29, 30, 31, 32, 33, 34, 35, 36, 37] (by decide +kernel) (by decide +kernel)
set_option maxRecDepth 20000 in
theorem gX7_behind_X7_mod : GoodIn wsX7_behind (wsV RX7 88 RX7 yX7_mod wsX7_mod) := goodIn_app (goodIn_of _ (by decide +kernel)) ggX7_behind_X7_mod
theorem dX7_behind_0 : decode cX7_behind 0 = .ok (.aload_n 0, 1) := by decide +kernel
theorem dX7_behind_1 : decode cX7_behind 1 = .ok (.iload_n 1, 1) := by decide +kernel
theorem dX7_behind_2 : decode cX7_behind 2 = .ok (.iconst 0, 1) := by decide +kernel
theorem dX7_behind_3 : decode cX7_behind 3 = .ok (.invokevirtual 84, 3) := by decide +kernel
theorem dX7_behind_6 : decode cX7_behind 6 = .ok (.istore_n 3, 1) := by decide +kernel
theorem dX7_behind_7 : decode cX7_behind 7 = .ok (.aload_n 0, 1) := by decide +kernel
theorem dX7_behind_8 : decode cX7_behind 8 = .ok (.iload_n 1, 1) := by decide +kernel
theorem dX7_behind_9 : decode cX7_behind 9 = .ok (.iconst 1, 1) := by decide +kernel
theorem dX7_behind_10 : decode cX7_behind 10 = .ok (.invokevirtual 84, 3) := by decide +kernel
theorem dX7_behind_13 : decode cX7_behind 13 = .ok (.istore 4, 2) := by decide +kernel
theorem dX7_behind_15 : decode cX7_behind 15 = .ok (.aload_n 0, 1) := by decide +kernel
theorem dX7_behind_16 : decode cX7_behind 16 = .ok (.iload_n 1, 1) := by decide +kernel
theorem dX7_behind_17 : decode cX7_behind 17 = .ok (.iconst 2, 1) := by decide +kernel
theorem dX7_behind_18 : decode cX7_behind 18 = .ok (.invokevirtual 84, 3) := by decide +kernel
theorem dX7_behind_21 : decode cX7_behind 21 = .ok (.istore 5, 2) := by decide +kernel
theorem dX7_behind_23 : decode cX7_behind 23 = .ok (.aload_n 0, 1) := by decide +kernel
theorem dX7_behind_24 : decode cX7_behind 24 = .ok (.iload_n 1, 1) := by decide +kernel
theorem dX7_behind_25 : decode cX7_behind 25 = .ok (.iconst 3, 1) := by decide +kernel
theorem dX7_behind_26 : decode cX7_behind 26 = .ok (.invokevirtual 84, 3) := by decide +kernel
theorem dX7_behind_29 : decode cX7_behind 29 = .ok (.istore 6, 2) := by decide +kernel
theorem dX7_behind_31 : decode cX7_behind 31 = .ok (.iconst 4, 1) := by decide +kernel
theorem dX7_behind_32 : decode cX7_behind 32 = .ok (.iload_n 2, 1) := by decide +kernel
theorem dX7_behind_33 : decode cX7_behind 33 = .ok (.imul, 1) := by decide +kernel
theorem dX7_behind_34 : decode cX7_behind 34 = .ok (.istore 7, 2) := by decide +kernel
theorem dX7_behind_36 : decode cX7_behind 36 = .ok (.aload_n 0, 1) := by decide +kernel
theorem dX7_behind_37 : decode cX7_behind 37 = .ok (.iload_n 3, 1) := by decide +kernel
theorem dX7_behind_38 : decode cX7_behind 38 = .ok (.aload_n 0, 1) := by decide +kernel
theorem dX7_behind_39 : decode cX7_behind 39 = .ok (.getfield 20, 3) := by decide +kernel
theorem dX7_behind_42 : decode cX7_behind 42 = .ok (.iload 7, 2) := by decide +kernel
theorem dX7_behind_44 : decode cX7_behind 44 = .ok (.iaload, 1) := by decide +kernel
theorem dX7_behind_45 : decode cX7_behind 45 = .ok (.imul, 1) := by decide +kernel
theorem dX7_behind_46 : decode cX7_behind 46 = .ok (.iload 4, 2) := by decide +kernel
theorem dX7_behind_48 : decode cX7_behind 48 = .ok (.aload_n 0, 1) := by decide +kernel
theorem dX7_behind_49 : decode cX7_behind 49 = .ok (.getfield 20, 3) := by decide +kernel
theorem dX7_behind_52 : decode cX7_behind 52 = .ok (.iload 7, 2) := by decide +kernel
theorem dX7_behind_54 : decode cX7_behind 54 = .ok (.iconst 2, 1) := by decide +kernel
theorem dX7_behind_55 : decode cX7_behind 55 = .ok (.iadd, 1) := by decide +kernel
theorem dX7_behind_56 : decode cX7_behind 56 = .ok (.iaload, 1) := by decide +kernel
theorem dX7_behind_57 : decode cX7_behind 57 = .ok (.imul, 1) := by decide +kernel
theorem dX7_behind_58 : decode cX7_behind 58 = .ok (.iadd, 1) := by decide +kernel
theorem dX7_behind_59 : decode cX7_behind 59 = .ok (.invokevirtual 88, 3) := by decide +kernel
theorem dX7_behind_62 : decode cX7_behind 62 = .ok (.aload_n 0, 1) := by decide +kernel
theorem dX7_behind_63 : decode cX7_behind 63 = .ok (.getfield 7, 3) := by decide +kernel
theorem dX7_behind_66 : decode cX7_behind 66 = .ok (.aload_n 0, 1) := by decide +kernel
theorem dX7_behind_67 : decode cX7_behind 67 = .ok (.iload_n 3, 1) := by decide +kernel
theorem dX7_behind_68 : decode cX7_behind 68 = .ok (.aload_n 0, 1) := by decide +kernel
theorem dX7_behind_69 : decode cX7_behind 69 = .ok (.getfield 20, 3) := by decide +kernel
theorem dX7_behind_72 : decode cX7_behind 72 = .ok (.iload 7, 2) := by decide +kernel
theorem dX7_behind_74 : decode cX7_behind 74 = .ok (.iconst 1, 1) := by decide +kernel
theorem dX7_behind_75 : decode cX7_behind 75 = .ok (.iadd, 1) := by decide +kernel
theorem dX7_behind_76 : decode cX7_behind 76 = .ok (.iaload, 1) := by decide +kernel
theorem dX7_behind_77 : decode cX7_behind 77 = .ok (.imul, 1) := by decide +kernel
theorem dX7_behind_78 : decode cX7_behind 78 = .ok (.iload 4, 2) := by decide +kernel
theorem dX7_behind_80 : decode cX7_behind 80 = .ok (.aload_n 0, 1) := by decide +kernel
theorem dX7_behind_81 : decode cX7_behind 81 = .ok (.getfield 20, 3) := by decide +kernel
theorem dX7_behind_84 : decode cX7_behind 84 = .ok (.iload 7, 2) := by decide +kernel
theorem dX7_behind_86 : decode cX7_behind 86 = .ok (.iconst 3, 1) := by decide +kernel
theorem dX7_behind_87 : decode cX7_behind 87 = .ok (.iadd, 1) := by decide +kernel
theorem dX7_behind_88 : decode cX7_behind 88 = .ok (.iaload, 1) := by decide +kernel
theorem dX7_behind_89 : decode cX7_behind 89 = .ok (.imul, 1) := by decide +kernel
theorem dX7_behind_90 : decode cX7_behind 90 = .ok (.iadd, 1) := by decide +kernel
theorem dX7_behind_91 : decode cX7_behind 91 = .ok (.invokevirtual 88, 3) := by decide +kernel
theorem dX7_behind_94 : decode cX7_behind 94 = .ok (.imul, 1) := by decide +kernel
theorem dX7_behind_95 : decode cX7_behind 95 = .ok (.iadd, 1) := by decide +kernel
theorem dX7_behind_96 : decode cX7_behind 96 = .ok (.aload_n 0, 1) := by decide +kernel
theorem dX7_behind_97 : decode cX7_behind 97 = .ok (.getfield 7, 3) := by decide +kernel
theorem dX7_behind_100 : decode cX7_behind 100 = .ok (.aload_n 0, 1) := by decide +kernel
theorem dX7_behind_101 : decode cX7_behind 101 = .ok (.getfield 7, 3) := by decide +kernel
theorem dX7_behind_104 : decode cX7_behind 104 = .ok (.imul, 1) := by decide +kernel
theorem dX7_behind_105 : decode cX7_behind 105 = .ok (.aload_n 0, 1) := by decide +kernel
theorem dX7_behind_106 : decode cX7_behind 106 = .ok (.iload 5, 2) := by decide +kernel
theorem dX7_behind_108 : decode cX7_behind 108 = .ok (.aload_n 0, 1) := by decide +kernel
theorem dX7_behind_109 : decode cX7_behind 109 = .ok (.getfield 20, 3) := by decide +kernel
theorem dX7_behind_112 : decode cX7_behind 112 = .ok (.iload 7, 2) := by decide +kernel
theorem dX7_behind_114 : decode cX7_behind 114 = .ok (.iaload, 1) := by decide +kernel
theorem dX7_behind_115 : decode cX7_behind 115 = .ok (.imul, 1) := by decide +kernel
theorem dX7_behind_116 : decode cX7_behind 116 = .ok (.iload 6, 2) := by decide +kernel
theorem dX7_behind_118 : decode cX7_behind 118 = .ok (.aload_n 0, 1) := by decide +kernel
theorem dX7_behind_119 : decode cX7_behind 119 = .ok (.getfield 20, 3) := by decide +kernel
theorem dX7_behind_122 : decode cX7_behind 122 = .ok (.iload 7, 2) := by decide +kernel
theorem dX7_behind_124 : decode cX7_behind 124 = .ok (.iconst 2, 1) := by decide +kernel
theorem dX7_behind_125 : decode cX7_behind 125 = .ok (.iadd, 1) := by decide +kernel
theorem dX7_behind_126 : decode cX7_behind 126 = .ok (.iaload, 1) := by decide +kernel
theorem dX7_behind_127 : decode cX7_behind 127 = .ok (.imul, 1) := by decide +kernel
theorem dX7_behind_128 : decode cX7_behind 128 = .ok (.iadd, 1) := by decide +kernel
theorem dX7_behind_129 : decode cX7_behind 129 = .ok (.invokevirtual 88, 3) := by decide +kernel
theorem dX7_behind_132 : decode cX7_behind 132 = .ok (.imul, 1) := by decide +kernel
theorem dX7_behind_133 : decode cX7_behind 133 = .ok (.iadd, 1) := by decide +kernel
theorem dX7_behind_134 : decode cX7_behind 134 = .ok (.aload_n 0, 1) := by decide +kernel
theorem dX7_behind_135 : decode cX7_behind 135 = .ok (.getfield 7, 3) := by decide +kernel
theorem dX7_behind_138 : decode cX7_behind 138 = .ok (.aload_n 0, 1) := by decide +kernel
theorem dX7_behind_139 : decode cX7_behind 139 = .ok (.getfield 7, 3) := by decide +kernel
theorem dX7_behind_142 : decode cX7_behind 142 = .ok (.imul, 1) := by decide +kernel
theorem dX7_behind_143 : decode cX7_behind 143 = .ok (.aload_n 0, 1) := by decide +kernel
theorem dX7_behind_144 : decode cX7_behind 144 = .ok (.getfield 7, 3) := by decide +kernel
theorem dX7_behind_147 : decode cX7_behind 147 = .ok (.imul, 1) := by decide +kernel
theorem dX7_behind_148 : decode cX7_behind 148 = .ok (.aload_n 0, 1) := by decide +kernel
theorem dX7_behind_149 : decode cX7_behind 149 = .ok (.iload 5, 2) := by decide +kernel
theorem dX7_behind_151 : decode cX7_behind 151 = .ok (.aload_n 0, 1) := by decide +kernel
theorem dX7_behind_152 : decode cX7_behind 152 = .ok (.getfield 20, 3) := by decide +kernel
theorem dX7_behind_155 : decode cX7_behind 155 = .ok (.iload 7, 2) := by decide +kernel
theorem dX7_behind_157 : decode cX7_behind 157 = .ok (.iconst 1, 1) := by decide +kernel
theorem dX7_behind_158 : decode cX7_behind 158 = .ok (.iadd, 1) := by decide +kernel
theorem dX7_behind_159 : decode cX7_behind 159 = .ok (.iaload, 1) := by decide +kernel
theorem dX7_behind_160 : decode cX7_behind 160 = .ok (.imul, 1) := by decide +kernel
theorem dX7_behind_161 : decode cX7_behind 161 = .ok (.iload 6, 2) := by decide +kernel
theorem dX7_behind_163 : decode cX7_behind 163 = .ok (.aload_n 0, 1) := by decide +kernel
theorem dX7_behind_164 : decode cX7_behind 164 = .ok (.getfield 20, 3) := by decide +kernel
theorem dX7_behind_167 : decode cX7_behind 167 = .ok (.iload 7, 2) := by decide +kernel
theorem dX7_behind_169 : decode cX7_behind 169 = .ok (.iconst 3, 1) := by decide +kernel
theorem dX7_behind_170 : decode cX7_behind 170 = .ok (.iadd, 1) := by decide +kernel
theorem dX7_behind_171 : decode cX7_behind 171 = .ok (.iaload, 1) := by decide +kernel
theorem dX7_behind_172 : decode cX7_behind 172 = .ok (.imul, 1) := by decide +kernel
theorem dX7_behind_173 : decode cX7_behind 173 = .ok (.iadd, 1) := by decide +kernel
theorem dX7_behind_174 : decode cX7_behind 174 = .ok (.invokevirtual 88, 3) := by decide +kernel
theorem dX7_behind_177 : decode cX7_behind 177 = .ok (.imul, 1) := by decide +kernel
theorem dX7_behind_178 : decode cX7_behind 178 = .ok (.iadd, 1) := by decide +kernel
theorem dX7_behind_179 : decode cX7_behind 179 = .ok (.ireturn, 1) := by decide +kernel
set_option maxRecDepth 20000 in
theorem ggX7_gathers_X7_joins : GoodIn wsX7_gathers wsX7_joins := goodIn_r _ [10, 1, 5, 2, 28, 29, 30, 31, 32, 33, 34, 35, 36, 37, 38, 39, 40, 41, 42, 43, 44, 45, 46, 47, 48, 49] (by decide +kernel) (by decide +kernel)
set_option maxRecDepth 20000 in
theorem gX7_gathers_X7_joins : GoodIn wsX7_gathers (wsV RX7 107 RX7 yX7_joins wsX7_joins) := goodIn_app (goodIn_of _ (by decide +kernel)) ggX7_gathers_X7_joins
set_option maxRecDepth 20000 in
theorem ggX7_gathers_X7_behind : GoodIn wsX7_gathers wsX7_behind := goodIn_r _ [14, 15, 3, 16, 17, 18, 9, 19, 20, 21, 22, 23, 24, 25, 26, 27, 28, 29, 30, 31, 32, 33, 34, 35, 36, 37, 38, 39, 40, 41, 42, 43, 44, 45, 46, 47, 48, 49] (by decide +kernel) (by decide +kernel)
set_option maxRecDepth 20000 in
theorem gX7_gathers_X7_behind : GoodIn wsX7_gathers (wsV RX7 111 RX7 yX7_behind wsX7_behind) := goodIn_app (goodIn_of _ (by decide +kernel)) ggX7_gathers_X7_behind
theorem dX7_gathers_0 : decode cX7_gathers 0 = .ok (.iconst 0, 1) := by decide +kernel
theorem dX7_gathers_1 : decode cX7_gathers 1 = .ok (.istore_n 1, 1) := by decide +kernel
theorem dX7_gathers_2 : decode cX7_gathers 2 = .ok (.iload_n 1, 1) := by decide +kernel
theorem dX7_gathers_3 : decode cX7_gathers 3 = .ok (.sipush 625, 3) := by decide +kernel
theorem dX7_gathers_6 : decode cX7_gathers 6 = .ok (.if_icmp .ge 16, 3) := by decide +kernel
theorem dX7_gathers_9 : decode cX7_gathers 9 = .ok (.aload_n 0, 1) := by decide +kernel
theorem dX7_gathers_10 : decode cX7_gathers 10 = .ok (.getfield 23, 3) := by decide +kernel
theorem dX7_gathers_13 : decode cX7_gathers 13 = .ok (.iload_n 1, 1) := by decide +kernel
theorem dX7_gathers_14 : decode cX7_gathers 14 = .ok (.iconst 0, 1) := by decide +kernel
theorem dX7_gathers_15 : decode cX7_gathers 15 = .ok (.bastore, 1) := by decide +kernel
theorem dX7_gathers_16 : decode cX7_gathers 16 = .ok (.iinc 1 1, 3) := by decide +kernel
theorem dX7_gathers_19 : decode cX7_gathers 19 = .ok (.goto (-17), 3) := by decide +kernel
theorem dX7_gathers_22 : decode cX7_gathers 22 = .ok (.aload_n 0, 1) := by decide +kernel
theorem dX7_gathers_23 : decode cX7_gathers 23 = .ok (.iconst 0, 1) := by decide +kernel
theorem dX7_gathers_24 : decode cX7_gathers 24 = .ok (.putfield 104, 3) := by decide +kernel
theorem dX7_gathers_27 : decode cX7_gathers 27 = .ok (.aload_n 0, 1) := by decide +kernel
theorem dX7_gathers_28 : decode cX7_gathers 28 = .ok (.iconst 1, 1) := by decide +kernel
theorem dX7_gathers_29 : decode cX7_gathers 29 = .ok (.aload_n 0, 1) := by decide +kernel
theorem dX7_gathers_30 : decode cX7_gathers 30 = .ok (.getfield 7, 3) := by decide +kernel
theorem dX7_gathers_33 : decode cX7_gathers 33 = .ok (.aload_n 0, 1) := by decide +kernel
theorem dX7_gathers_34 : decode cX7_gathers 34 = .ok (.getfield 7, 3) := by decide +kernel
theorem dX7_gathers_37 : decode cX7_gathers 37 = .ok (.imul, 1) := by decide +kernel
theorem dX7_gathers_38 : decode cX7_gathers 38 = .ok (.aload_n 0, 1) := by decide +kernel
theorem dX7_gathers_39 : decode cX7_gathers 39 = .ok (.getfield 7, 3) := by decide +kernel
theorem dX7_gathers_42 : decode cX7_gathers 42 = .ok (.imul, 1) := by decide +kernel
theorem dX7_gathers_43 : decode cX7_gathers 43 = .ok (.iadd, 1) := by decide +kernel
theorem dX7_gathers_44 : decode cX7_gathers 44 = .ok (.invokevirtual 107, 3) := by decide +kernel
theorem dX7_gathers_47 : decode cX7_gathers 47 = .ok (.iconst 0, 1) := by decide +kernel
theorem dX7_gathers_48 : decode cX7_gathers 48 = .ok (.istore_n 1, 1) := by decide +kernel
theorem dX7_gathers_49 : decode cX7_gathers 49 = .ok (.iload_n 1, 1) := by decide +kernel
theorem dX7_gathers_50 : decode cX7_gathers 50 = .ok (.aload_n 0, 1) := by decide +kernel
theorem dX7_gathers_51 : decode cX7_gathers 51 = .ok (.getfield 104, 3) := by decide +kernel
theorem dX7_gathers_54 : decode cX7_gathers 54 = .ok (.if_icmp .ge 40, 3) := by decide +kernel
theorem dX7_gathers_57 : decode cX7_gathers 57 = .ok (.iconst 0, 1) := by decide +kernel
theorem dX7_gathers_58 : decode cX7_gathers 58 = .ok (.istore_n 2, 1) := by decide +kernel
theorem dX7_gathers_59 : decode cX7_gathers 59 = .ok (.iload_n 2, 1) := by decide +kernel
theorem dX7_gathers_60 : decode cX7_gathers 60 = .ok (.aload_n 0, 1) := by decide +kernel
theorem dX7_gathers_61 : decode cX7_gathers 61 = .ok (.getfield 78, 3) := by decide +kernel
theorem dX7_gathers_64 : decode cX7_gathers 64 = .ok (.if_icmp .ge 24, 3) := by decide +kernel
theorem dX7_gathers_67 : decode cX7_gathers 67 = .ok (.aload_n 0, 1) := by decide +kernel
theorem dX7_gathers_68 : decode cX7_gathers 68 = .ok (.aload_n 0, 1) := by decide +kernel
theorem dX7_gathers_69 : decode cX7_gathers 69 = .ok (.aload_n 0, 1) := by decide +kernel
theorem dX7_gathers_70 : decode cX7_gathers 70 = .ok (.getfield 27, 3) := by decide +kernel
theorem dX7_gathers_73 : decode cX7_gathers 73 = .ok (.iload_n 1, 1) := by decide +kernel
theorem dX7_gathers_74 : decode cX7_gathers 74 = .ok (.iaload, 1) := by decide +kernel
theorem dX7_gathers_75 : decode cX7_gathers 75 = .ok (.iload_n 2, 1) := by decide +kernel
theorem dX7_gathers_76 : decode cX7_gathers 76 = .ok (.invokevirtual 111, 3) := by decide +kernel
theorem dX7_gathers_79 : decode cX7_gathers 79 = .ok (.invokevirtual 107, 3) := by decide +kernel
theorem dX7_gathers_82 : decode cX7_gathers 82 = .ok (.iinc 2 1, 3) := by decide +kernel
theorem dX7_gathers_85 : decode cX7_gathers 85 = .ok (.goto (-26), 3) := by decide +kernel
theorem dX7_gathers_88 : decode cX7_gathers 88 = .ok (.iinc 1 1, 3) := by decide +kernel
theorem dX7_gathers_91 : decode cX7_gathers 91 = .ok (.goto (-42), 3) := by decide +kernel
theorem dX7_gathers_94 : decode cX7_gathers 94 = .ok (.return_, 1) := by decide +kernel
set_option maxRecDepth 20000 in
theorem ggX7_order_X7_gathers : GoodIn wsX7_order wsX7_gathers := goodIn_r _ [7, 8, 2, 9, 10, 11, 12, 13, 14, 6, 15, 16, 17, 18, 19, 20, 21, 22, 23, 24, 25, 26, 27, 28, 29, 30, 31, 32, 33, 34, 35, 36, 37, 38, 39, 40, 41, 42, 43, 44, 45, 46, 47, 48, 49, 50, 51, 52, 53, 54] (by decide +kernel) (by decide +kernel)
set_option maxRecDepth 20000 in
theorem gX7_order_X7_gathers : GoodIn wsX7_order (wsV RX7 114 RX7 yX7_gathers wsX7_gathers) := goodIn_app (goodIn_of _ (by decide +kernel)) ggX7_order_X7_gathers
theorem dX7_order_0 : decode cX7_order 0 = .ok (.aload_n 0, 1) := by decide +kernel
theorem dX7_order_1 : decode cX7_order 1 = .ok (.iconst 0, 1) := by decide +kernel
theorem dX7_order_2 : decode cX7_order 2 = .ok (.putfield 60, 3) := by decide +kernel
theorem dX7_order_5 : decode cX7_order 5 = .ok (.aload_n 0, 1) := by decide +kernel
theorem dX7_order_6 : decode cX7_order 6 = .ok (.invokevirtual 114, 3) := by decide +kernel
theorem dX7_order_9 : decode cX7_order 9 = .ok (.aload_n 0, 1) := by decide +kernel
theorem dX7_order_10 : decode cX7_order 10 = .ok (.getfield 104, 3) := by decide +kernel
theorem dX7_order_13 : decode cX7_order 13 = .ok (.ireturn, 1) := by decide +kernel
theorem dX7_generatorCode_0 : decode cX7_generatorCode 0 = .ok (.iconst 4, 1) := by decide +kernel
theorem dX7_generatorCode_1 : decode cX7_generatorCode 1 = .ok (.iload_n 1, 1) := by decide +kernel
theorem dX7_generatorCode_2 : decode cX7_generatorCode 2 = .ok (.imul, 1) := by decide +kernel
theorem dX7_generatorCode_3 : decode cX7_generatorCode 3 = .ok (.istore_n 2, 1) := by decide +kernel
theorem dX7_generatorCode_4 : decode cX7_generatorCode 4 = .ok (.aload_n 0, 1) := by decide +kernel
theorem dX7_generatorCode_5 : decode cX7_generatorCode 5 = .ok (.getfield 20, 3) := by decide +kernel
theorem dX7_generatorCode_8 : decode cX7_generatorCode 8 = .ok (.iload_n 2, 1) := by decide +kernel
theorem dX7_generatorCode_9 : decode cX7_generatorCode 9 = .ok (.iaload, 1) := by decide +kernel
theorem dX7_generatorCode_10 : decode cX7_generatorCode 10 = .ok (.aload_n 0, 1) := by decide +kernel
theorem dX7_generatorCode_11 : decode cX7_generatorCode 11 = .ok (.getfield 7, 3) := by decide +kernel
theorem dX7_generatorCode_14 : decode cX7_generatorCode 14 = .ok (.aload_n 0, 1) := by decide +kernel
theorem dX7_generatorCode_15 : decode cX7_generatorCode 15 = .ok (.getfield 20, 3) := by decide +kernel
theorem dX7_generatorCode_18 : decode cX7_generatorCode 18 = .ok (.iload_n 2, 1) := by decide +kernel
theorem dX7_generatorCode_19 : decode cX7_generatorCode 19 = .ok (.iconst 1, 1) := by decide +kernel
theorem dX7_generatorCode_20 : decode cX7_generatorCode 20 = .ok (.iadd, 1) := by decide +kernel
theorem dX7_generatorCode_21 : decode cX7_generatorCode 21 = .ok (.iaload, 1) := by decide +kernel
theorem dX7_generatorCode_22 : decode cX7_generatorCode 22 = .ok (.imul, 1) := by decide +kernel
theorem dX7_generatorCode_23 : decode cX7_generatorCode 23 = .ok (.iadd, 1) := by decide +kernel
theorem dX7_generatorCode_24 : decode cX7_generatorCode 24 = .ok (.aload_n 0, 1) := by decide +kernel
theorem dX7_generatorCode_25 : decode cX7_generatorCode 25 = .ok (.getfield 7, 3) := by decide +kernel
theorem dX7_generatorCode_28 : decode cX7_generatorCode 28 = .ok (.aload_n 0, 1) := by decide +kernel
theorem dX7_generatorCode_29 : decode cX7_generatorCode 29 = .ok (.getfield 7, 3) := by decide +kernel
theorem dX7_generatorCode_32 : decode cX7_generatorCode 32 = .ok (.imul, 1) := by decide +kernel
theorem dX7_generatorCode_33 : decode cX7_generatorCode 33 = .ok (.aload_n 0, 1) := by decide +kernel
theorem dX7_generatorCode_34 : decode cX7_generatorCode 34 = .ok (.getfield 20, 3) := by decide +kernel
theorem dX7_generatorCode_37 : decode cX7_generatorCode 37 = .ok (.iload_n 2, 1) := by decide +kernel
theorem dX7_generatorCode_38 : decode cX7_generatorCode 38 = .ok (.iconst 2, 1) := by decide +kernel
theorem dX7_generatorCode_39 : decode cX7_generatorCode 39 = .ok (.iadd, 1) := by decide +kernel
theorem dX7_generatorCode_40 : decode cX7_generatorCode 40 = .ok (.iaload, 1) := by decide +kernel
theorem dX7_generatorCode_41 : decode cX7_generatorCode 41 = .ok (.imul, 1) := by decide +kernel
theorem dX7_generatorCode_42 : decode cX7_generatorCode 42 = .ok (.iadd, 1) := by decide +kernel
theorem dX7_generatorCode_43 : decode cX7_generatorCode 43 = .ok (.aload_n 0, 1) := by decide +kernel
theorem dX7_generatorCode_44 : decode cX7_generatorCode 44 = .ok (.getfield 7, 3) := by decide +kernel
theorem dX7_generatorCode_47 : decode cX7_generatorCode 47 = .ok (.aload_n 0, 1) := by decide +kernel
theorem dX7_generatorCode_48 : decode cX7_generatorCode 48 = .ok (.getfield 7, 3) := by decide +kernel
theorem dX7_generatorCode_51 : decode cX7_generatorCode 51 = .ok (.imul, 1) := by decide +kernel
theorem dX7_generatorCode_52 : decode cX7_generatorCode 52 = .ok (.aload_n 0, 1) := by decide +kernel
theorem dX7_generatorCode_53 : decode cX7_generatorCode 53 = .ok (.getfield 7, 3) := by decide +kernel
