theorem dJ7_fill_53178_0 : decode cJ7_fill_53178 0 = .ok (.iconst 0, 1) := by decide +kernel
theorem dJ7_fill_53178_1 : decode cJ7_fill_53178 1 = .ok (.istore_n 2, 1) := by decide +kernel
theorem dJ7_fill_53178_2 : decode cJ7_fill_53178 2 = .ok (.aload_n 0, 1) := by decide +kernel
theorem dJ7_fill_53178_3 : decode cJ7_fill_53178 3 = .ok (.arraylength, 1) := by decide +kernel
theorem dJ7_fill_53178_4 : decode cJ7_fill_53178 4 = .ok (.istore_n 3, 1) := by decide +kernel
theorem dJ7_fill_53178_5 : decode cJ7_fill_53178 5 = .ok (.iload_n 2, 1) := by decide +kernel
theorem dJ7_fill_53178_6 : decode cJ7_fill_53178 6 = .ok (.iload_n 3, 1) := by decide +kernel
theorem dJ7_fill_53178_7 : decode cJ7_fill_53178 7 = .ok (.if_icmp .ge 13, 3) := by decide +kernel
theorem dJ7_fill_53178_10 : decode cJ7_fill_53178 10 = .ok (.aload_n 0, 1) := by decide +kernel
theorem dJ7_fill_53178_11 : decode cJ7_fill_53178 11 = .ok (.iload_n 2, 1) := by decide +kernel
theorem dJ7_fill_53178_12 : decode cJ7_fill_53178 12 = .ok (.iload_n 1, 1) := by decide +kernel
theorem dJ7_fill_53178_13 : decode cJ7_fill_53178 13 = .ok (.iastore, 1) := by decide +kernel
theorem dJ7_fill_53178_14 : decode cJ7_fill_53178 14 = .ok (.iinc 2 1, 3) := by decide +kernel
theorem dJ7_fill_53178_17 : decode cJ7_fill_53178 17 = .ok (.goto (-12), 3) := by decide +kernel
theorem dJ7_fill_53178_20 : decode cJ7_fill_53178 20 = .ok (.return_, 1) := by decide +kernel
theorem dJ9_floorMod_7cf53_0 : decode cJ9_floorMod_7cf53 0 = .ok (.iload_n 0, 1) := by decide +kernel
theorem dJ9_floorMod_7cf53_1 : decode cJ9_floorMod_7cf53 1 = .ok (.iload_n 1, 1) := by decide +kernel
theorem dJ9_floorMod_7cf53_2 : decode cJ9_floorMod_7cf53 2 = .ok (.irem, 1) := by decide +kernel
theorem dJ9_floorMod_7cf53_3 : decode cJ9_floorMod_7cf53 3 = .ok (.istore_n 2, 1) := by decide +kernel
theorem dJ9_floorMod_7cf53_4 : decode cJ9_floorMod_7cf53 4 = .ok (.iload_n 0, 1) := by decide +kernel
theorem dJ9_floorMod_7cf53_5 : decode cJ9_floorMod_7cf53 5 = .ok (.iload_n 1, 1) := by decide +kernel
theorem dJ9_floorMod_7cf53_6 : decode cJ9_floorMod_7cf53 6 = .ok (.ixor, 1) := by decide +kernel
theorem dJ9_floorMod_7cf53_7 : decode cJ9_floorMod_7cf53 7 = .ok (.ifCond .ge 11, 3) := by decide +kernel
theorem dJ9_floorMod_7cf53_10 : decode cJ9_floorMod_7cf53 10 = .ok (.iload_n 2, 1) := by decide +kernel
theorem dJ9_floorMod_7cf53_11 : decode cJ9_floorMod_7cf53 11 = .ok (.ifCond .eq 7, 3) := by decide +kernel
theorem dJ9_floorMod_7cf53_14 : decode cJ9_floorMod_7cf53 14 = .ok (.iload_n 2, 1) := by decide +kernel
theorem dJ9_floorMod_7cf53_15 : decode cJ9_floorMod_7cf53 15 = .ok (.iload_n 1, 1) := by decide +kernel
theorem dJ9_floorMod_7cf53_16 : decode cJ9_floorMod_7cf53 16 = .ok (.iadd, 1) := by decide +kernel
theorem dJ9_floorMod_7cf53_17 : decode cJ9_floorMod_7cf53 17 = .ok (.ireturn, 1) := by decide +kernel
theorem dJ9_floorMod_7cf53_18 : decode cJ9_floorMod_7cf53 18 = .ok (.iload_n 2, 1) := by decide +kernel
theorem dJ9_floorMod_7cf53_19 : decode cJ9_floorMod_7cf53 19 = .ok (.ireturn, 1) := by decide +kernel
theorem dJ9_min_7cf53_0 : decode cJ9_min_7cf53 0 = .ok (.iload_n 0, 1) := by decide +kernel
theorem dJ9_min_7cf53_1 : decode cJ9_min_7cf53 1 = .ok (.iload_n 1, 1) := by decide +kernel
theorem dJ9_min_7cf53_2 : decode cJ9_min_7cf53 2 = .ok (.if_icmp .gt 7, 3) := by decide +kernel
theorem dJ9_min_7cf53_5 : decode cJ9_min_7cf53 5 = .ok (.iload_n 0, 1) := by decide +kernel
theorem dJ9_min_7cf53_6 : decode cJ9_min_7cf53 6 = .ok (.goto 4, 3) := by decide +kernel
theorem dJ9_min_7cf53_9 : decode cJ9_min_7cf53 9 = .ok (.iload_n 1, 1) := by decide +kernel
theorem dJ9_min_7cf53_10 : decode cJ9_min_7cf53 10 = .ok (.ireturn, 1) := by decide +kernel
theorem dX0_init_0 : decode cX0_init 0 = .ok (.aload_n 0, 1) := by decide +kernel
theorem dX0_init_1 : decode cX0_init 1 = .ok (.invokespecial 3, 3) := by decide +kernel
theorem dX0_init_4 : decode cX0_init 4 = .ok (.aload_n 0, 1) := by decide +kernel
theorem dX0_init_5 : decode cX0_init 5 = .ok (.bipush 25, 2) := by decide +kernel
theorem dX0_init_7 : decode cX0_init 7 = .ok (.newarray .int, 2) := by decide +kernel
theorem dX0_init_9 : decode cX0_init 9 = .ok (.putfield 9, 3) := by decide +kernel
theorem dX0_init_12 : decode cX0_init 12 = .ok (.aload_n 0, 1) := by decide +kernel
theorem dX0_init_13 : decode cX0_init 13 = .ok (.aload_n 1, 1) := by decide +kernel
theorem dX0_init_14 : decode cX0_init 14 = .ok (.putfield 15, 3) := by decide +kernel
theorem dX0_init_17 : decode cX0_init 17 = .ok (.return_, 1) := by decide +kernel
set_option maxRecDepth 20000 in
theorem ggX0_cell_X6_read : GoodIn wsX0_cell wsX6_read := goodIn_r _ [4] (by decide +kernel) (by decide +kernel)
set_option maxRecDepth 20000 in
theorem gX0_cell_X6_read_n19 : GoodIn wsX0_cell (wsX6_read) := ggX0_cell_X6_read
theorem dX0_cell_0 : decode cX0_cell 0 = .ok (.aload_n 0, 1) := by decide +kernel
theorem dX0_cell_1 : decode cX0_cell 1 = .ok (.getfield 9, 3) := by decide +kernel
theorem dX0_cell_4 : decode cX0_cell 4 = .ok (.iload_n 1, 1) := by decide +kernel
theorem dX0_cell_5 : decode cX0_cell 5 = .ok (.iconst 5, 1) := by decide +kernel
theorem dX0_cell_6 : decode cX0_cell 6 = .ok (.imul, 1) := by decide +kernel
theorem dX0_cell_7 : decode cX0_cell 7 = .ok (.iload_n 2, 1) := by decide +kernel
theorem dX0_cell_8 : decode cX0_cell 8 = .ok (.iadd, 1) := by decide +kernel
theorem dX0_cell_9 : decode cX0_cell 9 = .ok (.invokestatic 19, 3) := by decide +kernel
theorem dX0_cell_12 : decode cX0_cell 12 = .ok (.ireturn, 1) := by decide +kernel
set_option maxRecDepth 20000 in
theorem ggX0_code_X0_cell : GoodIn wsX0_code wsX0_cell := goodIn_r _ [8, 9, 10, 11, 12, 13, 14, 15] (by decide +kernel) (by decide +kernel)
set_option maxRecDepth 20000 in
theorem gX0_code_X0_cell : GoodIn wsX0_code (wsV RX0 32 RX0 yX0_cell wsX0_cell) := goodIn_app (goodIn_of _ (by decide +kernel)) ggX0_code_X0_cell
theorem dX0_code_0 : decode cX0_code 0 = .ok (.iconst 0, 1) := by decide +kernel
theorem dX0_code_1 : decode cX0_code 1 = .ok (.istore_n 2, 1) := by decide +kernel
theorem dX0_code_2 : decode cX0_code 2 = .ok (.aload_n 0, 1) := by decide +kernel
theorem dX0_code_3 : decode cX0_code 3 = .ok (.getfield 23, 3) := by decide +kernel
theorem dX0_code_6 : decode cX0_code 6 = .ok (.istore_n 3, 1) := by decide +kernel
theorem dX0_code_7 : decode cX0_code 7 = .ok (.iload_n 3, 1) := by decide +kernel
theorem dX0_code_8 : decode cX0_code 8 = .ok (.ifCond .lt 26, 3) := by decide +kernel
theorem dX0_code_11 : decode cX0_code 11 = .ok (.iload_n 2, 1) := by decide +kernel
theorem dX0_code_12 : decode cX0_code 12 = .ok (.aload_n 0, 1) := by decide +kernel
theorem dX0_code_13 : decode cX0_code 13 = .ok (.getfield 15, 3) := by decide +kernel
theorem dX0_code_16 : decode cX0_code 16 = .ok (.getfield 27, 3) := by decide +kernel
theorem dX0_code_19 : decode cX0_code 19 = .ok (.imul, 1) := by decide +kernel
theorem dX0_code_20 : decode cX0_code 20 = .ok (.aload_n 0, 1) := by decide +kernel
theorem dX0_code_21 : decode cX0_code 21 = .ok (.iload_n 1, 1) := by decide +kernel
theorem dX0_code_22 : decode cX0_code 22 = .ok (.iload_n 3, 1) := by decide +kernel
theorem dX0_code_23 : decode cX0_code 23 = .ok (.invokevirtual 32, 3) := by decide +kernel
theorem dX0_code_26 : decode cX0_code 26 = .ok (.iadd, 1) := by decide +kernel
theorem dX0_code_27 : decode cX0_code 27 = .ok (.istore_n 2, 1) := by decide +kernel
theorem dX0_code_28 : decode cX0_code 28 = .ok (.iinc 3 (-1), 3) := by decide +kernel
theorem dX0_code_31 : decode cX0_code 31 = .ok (.goto (-24), 3) := by decide +kernel
theorem dX0_code_34 : decode cX0_code 34 = .ok (.iload_n 2, 1) := by decide +kernel
theorem dX0_code_35 : decode cX0_code 35 = .ok (.ireturn, 1) := by decide +kernel
set_option maxRecDepth 20000 in
theorem ggX0_fill_X2_digit : GoodIn wsX0_fill wsX2_digit := goodIn_r _ [8, 9, 10, 11, 7, 12, 13, 14, 15, 16, 17, 18, 19, 20, 21, 40] (by decide +kernel) (by decide +kernel)
set_option maxRecDepth 20000 in
theorem gX0_fill_X2_digit : GoodIn wsX0_fill (wsV RX0 36 RX2 yX2_digit wsX2_digit) := goodIn_app (goodIn_of _ (by decide +kernel)) ggX0_fill_X2_digit
set_option maxRecDepth 20000 in
theorem ggX0_fill_X6_write : GoodIn wsX0_fill wsX6_write := goodIn_r _ [24] (by decide +kernel) (by decide +kernel)
set_option maxRecDepth 20000 in
theorem gX0_fill_X6_write_n39 : GoodIn wsX0_fill (wsX6_write) := ggX0_fill_X6_write
set_option maxRecDepth 20000 in
theorem ggX0_fill_X0_multiply : GoodIn wsX0_fill wsX0_multiply := goodIn_r _ [29, 3, 2, 1, 30, 31, 32, 28, 33, 34, 23, 35, 36, 15, 16, 7, 17, 13, 18, 19, 20, 21, 22, 24, 37, 38, 39, 40] (by decide +kernel) (by decide +kernel)
set_option maxRecDepth 20000 in
theorem gX0_fill_X0_multiply : GoodIn wsX0_fill (wsV RX0 43 RX0 yX0_multiply wsX0_multiply) := goodIn_app (goodIn_of _ (by decide +kernel)) ggX0_fill_X0_multiply
theorem dX0_fill_0 : decode cX0_fill 0 = .ok (.aload_n 0, 1) := by decide +kernel
theorem dX0_fill_1 : decode cX0_fill 1 = .ok (.getfield 15, 3) := by decide +kernel
theorem dX0_fill_4 : decode cX0_fill 4 = .ok (.iload_n 1, 1) := by decide +kernel
theorem dX0_fill_5 : decode cX0_fill 5 = .ok (.iconst 0, 1) := by decide +kernel
theorem dX0_fill_6 : decode cX0_fill 6 = .ok (.invokevirtual 36, 3) := by decide +kernel
theorem dX0_fill_9 : decode cX0_fill 9 = .ok (.istore_n 3, 1) := by decide +kernel
theorem dX0_fill_10 : decode cX0_fill 10 = .ok (.aload_n 0, 1) := by decide +kernel
theorem dX0_fill_11 : decode cX0_fill 11 = .ok (.getfield 15, 3) := by decide +kernel
theorem dX0_fill_14 : decode cX0_fill 14 = .ok (.iload_n 1, 1) := by decide +kernel
theorem dX0_fill_15 : decode cX0_fill 15 = .ok (.iconst 1, 1) := by decide +kernel
theorem dX0_fill_16 : decode cX0_fill 16 = .ok (.invokevirtual 36, 3) := by decide +kernel
theorem dX0_fill_19 : decode cX0_fill 19 = .ok (.istore 4, 2) := by decide +kernel
theorem dX0_fill_21 : decode cX0_fill 21 = .ok (.aload_n 0, 1) := by decide +kernel
theorem dX0_fill_22 : decode cX0_fill 22 = .ok (.getfield 15, 3) := by decide +kernel
theorem dX0_fill_25 : decode cX0_fill 25 = .ok (.iload_n 1, 1) := by decide +kernel
theorem dX0_fill_26 : decode cX0_fill 26 = .ok (.iconst 2, 1) := by decide +kernel
theorem dX0_fill_27 : decode cX0_fill 27 = .ok (.invokevirtual 36, 3) := by decide +kernel
theorem dX0_fill_30 : decode cX0_fill 30 = .ok (.istore 5, 2) := by decide +kernel
theorem dX0_fill_32 : decode cX0_fill 32 = .ok (.aload_n 0, 1) := by decide +kernel
theorem dX0_fill_33 : decode cX0_fill 33 = .ok (.getfield 15, 3) := by decide +kernel
theorem dX0_fill_36 : decode cX0_fill 36 = .ok (.iload_n 1, 1) := by decide +kernel
theorem dX0_fill_37 : decode cX0_fill 37 = .ok (.iconst 3, 1) := by decide +kernel
theorem dX0_fill_38 : decode cX0_fill 38 = .ok (.invokevirtual 36, 3) := by decide +kernel
theorem dX0_fill_41 : decode cX0_fill 41 = .ok (.istore 6, 2) := by decide +kernel
theorem dX0_fill_43 : decode cX0_fill 43 = .ok (.aload_n 0, 1) := by decide +kernel
theorem dX0_fill_44 : decode cX0_fill 44 = .ok (.getfield 9, 3) := by decide +kernel
theorem dX0_fill_47 : decode cX0_fill 47 = .ok (.iconst 0, 1) := by decide +kernel
theorem dX0_fill_48 : decode cX0_fill 48 = .ok (.iconst 1, 1) := by decide +kernel
theorem dX0_fill_49 : decode cX0_fill 49 = .ok (.invokestatic 39, 3) := by decide +kernel
theorem dX0_fill_52 : decode cX0_fill 52 = .ok (.iconst 0, 1) := by decide +kernel
theorem dX0_fill_53 : decode cX0_fill 53 = .ok (.istore 7, 2) := by decide +kernel
theorem dX0_fill_55 : decode cX0_fill 55 = .ok (.iload 7, 2) := by decide +kernel
theorem dX0_fill_57 : decode cX0_fill 57 = .ok (.iload_n 2, 1) := by decide +kernel
theorem dX0_fill_58 : decode cX0_fill 58 = .ok (.if_icmp .ge 56, 3) := by decide +kernel
theorem dX0_fill_61 : decode cX0_fill 61 = .ok (.aload_n 0, 1) := by decide +kernel
theorem dX0_fill_62 : decode cX0_fill 62 = .ok (.iload 7, 2) := by decide +kernel
theorem dX0_fill_64 : decode cX0_fill 64 = .ok (.putfield 23, 3) := by decide +kernel
theorem dX0_fill_67 : decode cX0_fill 67 = .ok (.aload_n 0, 1) := by decide +kernel
theorem dX0_fill_68 : decode cX0_fill 68 = .ok (.iload 7, 2) := by decide +kernel
theorem dX0_fill_70 : decode cX0_fill 70 = .ok (.iload 7, 2) := by decide +kernel
theorem dX0_fill_72 : decode cX0_fill 72 = .ok (.iconst 1, 1) := by decide +kernel
theorem dX0_fill_73 : decode cX0_fill 73 = .ok (.iadd, 1) := by decide +kernel
theorem dX0_fill_74 : decode cX0_fill 74 = .ok (.iload 5, 2) := by decide +kernel
theorem dX0_fill_76 : decode cX0_fill 76 = .ok (.iload 6, 2) := by decide +kernel
theorem dX0_fill_78 : decode cX0_fill 78 = .ok (.invokevirtual 43, 3) := by decide +kernel
theorem dX0_fill_81 : decode cX0_fill 81 = .ok (.iconst 0, 1) := by decide +kernel
theorem dX0_fill_82 : decode cX0_fill 82 = .ok (.istore 8, 2) := by decide +kernel
theorem dX0_fill_84 : decode cX0_fill 84 = .ok (.iload 8, 2) := by decide +kernel
theorem dX0_fill_86 : decode cX0_fill 86 = .ok (.iload 7, 2) := by decide +kernel
theorem dX0_fill_88 : decode cX0_fill 88 = .ok (.if_icmp .gt 20, 3) := by decide +kernel
theorem dX0_fill_91 : decode cX0_fill 91 = .ok (.aload_n 0, 1) := by decide +kernel
theorem dX0_fill_92 : decode cX0_fill 92 = .ok (.iload 8, 2) := by decide +kernel
theorem dX0_fill_94 : decode cX0_fill 94 = .ok (.iload 8, 2) := by decide +kernel
theorem dX0_fill_96 : decode cX0_fill 96 = .ok (.iload_n 3, 1) := by decide +kernel
theorem dX0_fill_97 : decode cX0_fill 97 = .ok (.iload 4, 2) := by decide +kernel
theorem dX0_fill_99 : decode cX0_fill 99 = .ok (.invokevirtual 43, 3) := by decide +kernel
theorem dX0_fill_102 : decode cX0_fill 102 = .ok (.iinc 8 1, 3) := by decide +kernel
theorem dX0_fill_105 : decode cX0_fill 105 = .ok (.goto (-21), 3) := by decide +kernel
theorem dX0_fill_108 : decode cX0_fill 108 = .ok (.iinc 7 1, 3) := by decide +kernel
theorem dX0_fill_111 : decode cX0_fill 111 = .ok (.goto (-56), 3) := by decide +kernel
theorem dX0_fill_114 : decode cX0_fill 114 = .ok (.aload_n 0, 1) := by decide +kernel
theorem dX0_fill_115 : decode cX0_fill 115 = .ok (.iload_n 2, 1) := by decide +kernel
theorem dX0_fill_116 : decode cX0_fill 116 = .ok (.putfield 23, 3) := by decide +kernel
theorem dX0_fill_119 : decode cX0_fill 119 = .ok (.return_, 1) := by decide +kernel
set_option maxRecDepth 20000 in
theorem ggX0_multiply_X0_cell : GoodIn wsX0_multiply wsX0_cell := goodIn_r _ [8, 2, 9, 10, 11, 24, 25, 26] (by decide +kernel) (by decide +kernel)
set_option maxRecDepth 20000 in
theorem gX0_multiply_X0_cell : GoodIn wsX0_multiply (wsV RX0 32 RX0 yX0_cell wsX0_cell) := goodIn_app (goodIn_of _ (by decide +kernel)) ggX0_multiply_X0_cell
set_option maxRecDepth 20000 in
theorem ggX0_multiply_X2_rest : GoodIn wsX0_multiply wsX2_rest := goodIn_r _ [16, 17, 18, 19, 20, 21, 27] (by decide +kernel) (by decide +kernel)
set_option maxRecDepth 20000 in
theorem gX0_multiply_X2_rest : GoodIn wsX0_multiply (wsV RX0 47 RX2 yX2_rest wsX2_rest) := goodIn_app (goodIn_of _ (by decide +kernel)) ggX0_multiply_X2_rest
set_option maxRecDepth 20000 in
theorem ggX0_multiply_X6_write : GoodIn wsX0_multiply wsX6_write := goodIn_r _ [23] (by decide +kernel) (by decide +kernel)
set_option maxRecDepth 20000 in
theorem gX0_multiply_X6_write_n39 : GoodIn wsX0_multiply (wsX6_write) := ggX0_multiply_X6_write
theorem dX0_multiply_0 : decode cX0_multiply 0 = .ok (.aload_n 0, 1) := by decide +kernel
theorem dX0_multiply_1 : decode cX0_multiply 1 = .ok (.getfield 23, 3) := by decide +kernel
theorem dX0_multiply_4 : decode cX0_multiply 4 = .ok (.iconst 1, 1) := by decide +kernel
theorem dX0_multiply_5 : decode cX0_multiply 5 = .ok (.iadd, 1) := by decide +kernel
theorem dX0_multiply_6 : decode cX0_multiply 6 = .ok (.istore 5, 2) := by decide +kernel
theorem dX0_multiply_8 : decode cX0_multiply 8 = .ok (.iload 5, 2) := by decide +kernel
theorem dX0_multiply_10 : decode cX0_multiply 10 = .ok (.ifCond .lt 81, 3) := by decide +kernel
theorem dX0_multiply_13 : decode cX0_multiply 13 = .ok (.iload 5, 2) := by decide +kernel
theorem dX0_multiply_15 : decode cX0_multiply 15 = .ok (.aload_n 0, 1) := by decide +kernel
theorem dX0_multiply_16 : decode cX0_multiply 16 = .ok (.getfield 23, 3) := by decide +kernel
theorem dX0_multiply_19 : decode cX0_multiply 19 = .ok (.if_icmp .gt 15, 3) := by decide +kernel
theorem dX0_multiply_22 : decode cX0_multiply 22 = .ok (.iload_n 3, 1) := by decide +kernel
theorem dX0_multiply_23 : decode cX0_multiply 23 = .ok (.aload_n 0, 1) := by decide +kernel
theorem dX0_multiply_24 : decode cX0_multiply 24 = .ok (.iload_n 1, 1) := by decide +kernel
theorem dX0_multiply_25 : decode cX0_multiply 25 = .ok (.iload 5, 2) := by decide +kernel
theorem dX0_multiply_27 : decode cX0_multiply 27 = .ok (.invokevirtual 32, 3) := by decide +kernel
theorem dX0_multiply_30 : decode cX0_multiply 30 = .ok (.imul, 1) := by decide +kernel
theorem dX0_multiply_31 : decode cX0_multiply 31 = .ok (.goto 4, 3) := by decide +kernel
theorem dX0_multiply_34 : decode cX0_multiply 34 = .ok (.iconst 0, 1) := by decide +kernel
theorem dX0_multiply_35 : decode cX0_multiply 35 = .ok (.istore 6, 2) := by decide +kernel
theorem dX0_multiply_37 : decode cX0_multiply 37 = .ok (.iload 5, 2) := by decide +kernel
theorem dX0_multiply_39 : decode cX0_multiply 39 = .ok (.ifCond .le 18, 3) := by decide +kernel
theorem dX0_multiply_42 : decode cX0_multiply 42 = .ok (.iload 4, 2) := by decide +kernel
theorem dX0_multiply_44 : decode cX0_multiply 44 = .ok (.aload_n 0, 1) := by decide +kernel
theorem dX0_multiply_45 : decode cX0_multiply 45 = .ok (.iload_n 1, 1) := by decide +kernel
theorem dX0_multiply_46 : decode cX0_multiply 46 = .ok (.iload 5, 2) := by decide +kernel
theorem dX0_multiply_48 : decode cX0_multiply 48 = .ok (.iconst 1, 1) := by decide +kernel
theorem dX0_multiply_49 : decode cX0_multiply 49 = .ok (.isub, 1) := by decide +kernel
theorem dX0_multiply_50 : decode cX0_multiply 50 = .ok (.invokevirtual 32, 3) := by decide +kernel
theorem dX0_multiply_53 : decode cX0_multiply 53 = .ok (.imul, 1) := by decide +kernel
theorem dX0_multiply_54 : decode cX0_multiply 54 = .ok (.goto 4, 3) := by decide +kernel
theorem dX0_multiply_57 : decode cX0_multiply 57 = .ok (.iconst 0, 1) := by decide +kernel
theorem dX0_multiply_58 : decode cX0_multiply 58 = .ok (.istore 7, 2) := by decide +kernel
theorem dX0_multiply_60 : decode cX0_multiply 60 = .ok (.aload_n 0, 1) := by decide +kernel
theorem dX0_multiply_61 : decode cX0_multiply 61 = .ok (.getfield 9, 3) := by decide +kernel
theorem dX0_multiply_64 : decode cX0_multiply 64 = .ok (.iload_n 2, 1) := by decide +kernel
theorem dX0_multiply_65 : decode cX0_multiply 65 = .ok (.iconst 5, 1) := by decide +kernel
theorem dX0_multiply_66 : decode cX0_multiply 66 = .ok (.imul, 1) := by decide +kernel
theorem dX0_multiply_67 : decode cX0_multiply 67 = .ok (.iload 5, 2) := by decide +kernel
theorem dX0_multiply_69 : decode cX0_multiply 69 = .ok (.iadd, 1) := by decide +kernel
theorem dX0_multiply_70 : decode cX0_multiply 70 = .ok (.aload_n 0, 1) := by decide +kernel
theorem dX0_multiply_71 : decode cX0_multiply 71 = .ok (.getfield 15, 3) := by decide +kernel
theorem dX0_multiply_74 : decode cX0_multiply 74 = .ok (.iload 6, 2) := by decide +kernel
theorem dX0_multiply_76 : decode cX0_multiply 76 = .ok (.iload 7, 2) := by decide +kernel
theorem dX0_multiply_78 : decode cX0_multiply 78 = .ok (.iadd, 1) := by decide +kernel
theorem dX0_multiply_79 : decode cX0_multiply 79 = .ok (.invokevirtual 47, 3) := by decide +kernel
theorem dX0_multiply_82 : decode cX0_multiply 82 = .ok (.invokestatic 39, 3) := by decide +kernel
theorem dX0_multiply_85 : decode cX0_multiply 85 = .ok (.iinc 5 (-1), 3) := by decide +kernel
theorem dX0_multiply_88 : decode cX0_multiply 88 = .ok (.goto (-80), 3) := by decide +kernel
theorem dX0_multiply_91 : decode cX0_multiply 91 = .ok (.return_, 1) := by decide +kernel
theorem dX1_init_0 : decode cX1_init 0 = .ok (.aload_n 0, 1) := by decide +kernel
theorem dX1_init_1 : decode cX1_init 1 = .ok (.invokespecial 3, 3) := by decide +kernel
theorem dX1_init_4 : decode cX1_init 4 = .ok (.aload_n 0, 1) := by decide +kernel
theorem dX1_init_5 : decode cX1_init 5 = .ok (.bipush 100, 2) := by decide +kernel
theorem dX1_init_7 : decode cX1_init 7 = .ok (.newarray .int, 2) := by decide +kernel
theorem dX1_init_9 : decode cX1_init 9 = .ok (.putfield 9, 3) := by decide +kernel
theorem dX1_init_12 : decode cX1_init 12 = .ok (.aload_n 0, 1) := by decide +kernel
theorem dX1_init_13 : decode cX1_init 13 = .ok (.aload_n 1, 1) := by decide +kernel
theorem dX1_init_14 : decode cX1_init 14 = .ok (.putfield 15, 3) := by decide +kernel
theorem dX1_init_17 : decode cX1_init 17 = .ok (.return_, 1) := by decide +kernel
theorem dX1_begin_0 : decode cX1_begin 0 = .ok (.aload_n 0, 1) := by decide +kernel
theorem dX1_begin_1 : decode cX1_begin 1 = .ok (.iload_n 1, 1) := by decide +kernel
theorem dX1_begin_2 : decode cX1_begin 2 = .ok (.putfield 19, 3) := by decide +kernel
theorem dX1_begin_5 : decode cX1_begin 5 = .ok (.aload_n 0, 1) := by decide +kernel
theorem dX1_begin_6 : decode cX1_begin 6 = .ok (.iconst 0, 1) := by decide +kernel
theorem dX1_begin_7 : decode cX1_begin 7 = .ok (.putfield 23, 3) := by decide +kernel
theorem dX1_begin_10 : decode cX1_begin 10 = .ok (.return_, 1) := by decide +kernel
set_option maxRecDepth 20000 in
theorem ggX1_cell_X6_read : GoodIn wsX1_cell wsX6_read := goodIn_r _ [4] (by decide +kernel) (by decide +kernel)
set_option maxRecDepth 20000 in
theorem gX1_cell_X6_read_n26 : GoodIn wsX1_cell (wsX6_read) := ggX1_cell_X6_read
theorem dX1_cell_0 : decode cX1_cell 0 = .ok (.aload_n 0, 1) := by decide +kernel
theorem dX1_cell_1 : decode cX1_cell 1 = .ok (.getfield 9, 3) := by decide +kernel
theorem dX1_cell_4 : decode cX1_cell 4 = .ok (.iload_n 1, 1) := by decide +kernel
theorem dX1_cell_5 : decode cX1_cell 5 = .ok (.iconst 5, 1) := by decide +kernel
theorem dX1_cell_6 : decode cX1_cell 6 = .ok (.imul, 1) := by decide +kernel
theorem dX1_cell_7 : decode cX1_cell 7 = .ok (.iload_n 2, 1) := by decide +kernel
theorem dX1_cell_8 : decode cX1_cell 8 = .ok (.iadd, 1) := by decide +kernel
theorem dX1_cell_9 : decode cX1_cell 9 = .ok (.invokestatic 26, 3) := by decide +kernel
theorem dX1_cell_12 : decode cX1_cell 12 = .ok (.ireturn, 1) := by decide +kernel
set_option maxRecDepth 20000 in
theorem ggX1_put_X2_rest : GoodIn wsX1_put wsX2_rest := goodIn_r _ [7, 8, 9, 10, 11, 12, 20] (by decide +kernel) (by decide +kernel)
set_option maxRecDepth 20000 in
theorem gX1_put_X2_rest : GoodIn wsX1_put (wsV RX1 30 RX2 yX2_rest wsX2_rest) := goodIn_app (goodIn_of _ (by decide +kernel)) ggX1_put_X2_rest
set_option maxRecDepth 20000 in
theorem ggX1_put_X6_write : GoodIn wsX1_put wsX6_write := goodIn_r _ [15] (by decide +kernel) (by decide +kernel)
set_option maxRecDepth 20000 in
theorem gX1_put_X6_write_n36 : GoodIn wsX1_put (wsX6_write) := ggX1_put_X6_write
theorem dX1_put_0 : decode cX1_put 0 = .ok (.aload_n 0, 1) := by decide +kernel
theorem dX1_put_1 : decode cX1_put 1 = .ok (.getfield 9, 3) := by decide +kernel
theorem dX1_put_4 : decode cX1_put 4 = .ok (.iload_n 1, 1) := by decide +kernel
theorem dX1_put_5 : decode cX1_put 5 = .ok (.iconst 5, 1) := by decide +kernel
theorem dX1_put_6 : decode cX1_put 6 = .ok (.imul, 1) := by decide +kernel
theorem dX1_put_7 : decode cX1_put 7 = .ok (.iload_n 2, 1) := by decide +kernel
theorem dX1_put_8 : decode cX1_put 8 = .ok (.iadd, 1) := by decide +kernel
theorem dX1_put_9 : decode cX1_put 9 = .ok (.aload_n 0, 1) := by decide +kernel
theorem dX1_put_10 : decode cX1_put 10 = .ok (.getfield 15, 3) := by decide +kernel
theorem dX1_put_13 : decode cX1_put 13 = .ok (.iload_n 3, 1) := by decide +kernel
theorem dX1_put_14 : decode cX1_put 14 = .ok (.invokevirtual 30, 3) := by decide +kernel
theorem dX1_put_17 : decode cX1_put 17 = .ok (.invokestatic 36, 3) := by decide +kernel
theorem dX1_put_20 : decode cX1_put 20 = .ok (.return_, 1) := by decide +kernel
set_option maxRecDepth 20000 in
theorem ggX1_askToLeave_X0_cell : GoodIn wsX1_askToLeave wsX0_cell := goodIn_r _ [7, 8, 9, 10, 11, 35, 36, 37] (by decide +kernel) (by decide +kernel)
set_option maxRecDepth 20000 in
theorem gX1_askToLeave_X0_cell : GoodIn wsX1_askToLeave (wsV RX1 40 RX0 yX0_cell wsX0_cell) := goodIn_app (goodIn_of _ (by decide +kernel)) ggX1_askToLeave_X0_cell
set_option maxRecDepth 20000 in
theorem ggX1_askToLeave_X1_put : GoodIn wsX1_askToLeave wsX1_put := goodIn_r _ [16, 17, 18, 19, 20, 21, 22, 23, 24, 25, 26, 27, 28, 29, 10, 30, 31, 32, 33, 34, 38] (by decide +kernel) (by decide +kernel)
set_option maxRecDepth 20000 in
theorem gX1_askToLeave_X1_put : GoodIn wsX1_askToLeave (wsV RX1 46 RX1 yX1_put wsX1_put) := goodIn_app (goodIn_of _ (by decide +kernel)) ggX1_askToLeave_X1_put
theorem dX1_askToLeave_0 : decode cX1_askToLeave 0 = .ok (.iconst 0, 1) := by decide +kernel
theorem dX1_askToLeave_1 : decode cX1_askToLeave 1 = .ok (.istore_n 2, 1) := by decide +kernel
theorem dX1_askToLeave_2 : decode cX1_askToLeave 2 = .ok (.iload_n 2, 1) := by decide +kernel
theorem dX1_askToLeave_3 : decode cX1_askToLeave 3 = .ok (.aload_n 0, 1) := by decide +kernel
theorem dX1_askToLeave_4 : decode cX1_askToLeave 4 = .ok (.getfield 19, 3) := by decide +kernel
theorem dX1_askToLeave_7 : decode cX1_askToLeave 7 = .ok (.if_icmp .ge 61, 3) := by decide +kernel
theorem dX1_askToLeave_10 : decode cX1_askToLeave 10 = .ok (.iconst 0, 1) := by decide +kernel
theorem dX1_askToLeave_11 : decode cX1_askToLeave 11 = .ok (.istore_n 3, 1) := by decide +kernel
theorem dX1_askToLeave_12 : decode cX1_askToLeave 12 = .ok (.iload_n 3, 1) := by decide +kernel
theorem dX1_askToLeave_13 : decode cX1_askToLeave 13 = .ok (.aload_n 0, 1) := by decide +kernel
theorem dX1_askToLeave_14 : decode cX1_askToLeave 14 = .ok (.getfield 19, 3) := by decide +kernel
theorem dX1_askToLeave_17 : decode cX1_askToLeave 17 = .ok (.if_icmp .ge 35, 3) := by decide +kernel
theorem dX1_askToLeave_20 : decode cX1_askToLeave 20 = .ok (.aload_n 0, 1) := by decide +kernel
theorem dX1_askToLeave_21 : decode cX1_askToLeave 21 = .ok (.aload_n 0, 1) := by decide +kernel
theorem dX1_askToLeave_22 : decode cX1_askToLeave 22 = .ok (.getfield 23, 3) := by decide +kernel
theorem dX1_askToLeave_25 : decode cX1_askToLeave 25 = .ok (.iload_n 3, 1) := by decide +kernel
theorem dX1_askToLeave_26 : decode cX1_askToLeave 26 = .ok (.aload_n 1, 1) := by decide +kernel
theorem dX1_askToLeave_27 : decode cX1_askToLeave 27 = .ok (.iload_n 3, 1) := by decide +kernel
theorem dX1_askToLeave_28 : decode cX1_askToLeave 28 = .ok (.iload_n 2, 1) := by decide +kernel
theorem dX1_askToLeave_29 : decode cX1_askToLeave 29 = .ok (.invokevirtual 40, 3) := by decide +kernel
theorem dX1_askToLeave_32 : decode cX1_askToLeave 32 = .ok (.iload_n 3, 1) := by decide +kernel
theorem dX1_askToLeave_33 : decode cX1_askToLeave 33 = .ok (.iload_n 2, 1) := by decide +kernel
theorem dX1_askToLeave_34 : decode cX1_askToLeave 34 = .ok (.if_icmp .ne 7, 3) := by decide +kernel
theorem dX1_askToLeave_37 : decode cX1_askToLeave 37 = .ok (.iconst 1, 1) := by decide +kernel
theorem dX1_askToLeave_38 : decode cX1_askToLeave 38 = .ok (.goto 4, 3) := by decide +kernel
theorem dX1_askToLeave_41 : decode cX1_askToLeave 41 = .ok (.iconst 0, 1) := by decide +kernel
theorem dX1_askToLeave_42 : decode cX1_askToLeave 42 = .ok (.isub, 1) := by decide +kernel
theorem dX1_askToLeave_43 : decode cX1_askToLeave 43 = .ok (.invokevirtual 46, 3) := by decide +kernel
theorem dX1_askToLeave_46 : decode cX1_askToLeave 46 = .ok (.iinc 3 1, 3) := by decide +kernel
theorem dX1_askToLeave_49 : decode cX1_askToLeave 49 = .ok (.goto (-37), 3) := by decide +kernel
theorem dX1_askToLeave_52 : decode cX1_askToLeave 52 = .ok (.aload_n 0, 1) := by decide +kernel
theorem dX1_askToLeave_53 : decode cX1_askToLeave 53 = .ok (.dup, 1) := by decide +kernel
theorem dX1_askToLeave_54 : decode cX1_askToLeave 54 = .ok (.getfield 23, 3) := by decide +kernel
theorem dX1_askToLeave_57 : decode cX1_askToLeave 57 = .ok (.iconst 1, 1) := by decide +kernel
theorem dX1_askToLeave_58 : decode cX1_askToLeave 58 = .ok (.iadd, 1) := by decide +kernel
theorem dX1_askToLeave_59 : decode cX1_askToLeave 59 = .ok (.putfield 23, 3) := by decide +kernel
theorem dX1_askToLeave_62 : decode cX1_askToLeave 62 = .ok (.iinc 2 1, 3) := by decide +kernel
theorem dX1_askToLeave_65 : decode cX1_askToLeave 65 = .ok (.goto (-63), 3) := by decide +kernel
theorem dX1_askToLeave_68 : decode cX1_askToLeave 68 = .ok (.return_, 1) := by decide +kernel
set_option maxRecDepth 20000 in
theorem ggX1_freedom_X1_findPivot : GoodIn wsX1_freedom wsX1_findPivot := goodIn_r _ [6, 7, 8, 9, 10, 5, 11, 12, 13, 14, 15, 46, 47, 48, 49] (by decide +kernel) (by decide +kernel)
set_option maxRecDepth 20000 in
theorem gX1_freedom_X1_findPivot : GoodIn wsX1_freedom (wsV RX1 50 RX1 yX1_findPivot wsX1_findPivot) := goodIn_app (goodIn_of _ (by decide +kernel)) ggX1_freedom_X1_findPivot
set_option maxRecDepth 20000 in
theorem ggX1_freedom_X1_swap : GoodIn wsX1_freedom wsX1_swap := goodIn_r _ [19, 1, 8, 9, 10, 5, 11, 12, 13, 14, 15, 20, 21, 22, 23, 24, 25, 26, 27, 28, 29, 30, 31, 32, 33, 34, 35, 36, 46, 47, 48, 49, 50] (by decide +kernel) (by decide +kernel)
set_option maxRecDepth 20000 in
theorem gX1_freedom_X1_swap : GoodIn wsX1_freedom (wsV RX1 53 RX1 yX1_swap wsX1_swap) := goodIn_app (goodIn_of _ (by decide +kernel)) ggX1_freedom_X1_swap
set_option maxRecDepth 20000 in
theorem ggX1_freedom_X1_clearBelow : GoodIn wsX1_freedom wsX1_clearBelow := goodIn_r _ [40, 24, 7, 1, 8, 9, 10, 5, 11, 12, 13, 14, 15, 41, 42, 43, 28, 44, 30, 45, 26, 27, 29, 31, 32, 33, 34, 25, 20, 21, 22, 23, 35, 36, 46, 47, 48, 49, 50] (by decide +kernel) (by decide +kernel)
set_option maxRecDepth 20000 in
theorem gX1_freedom_X1_clearBelow : GoodIn wsX1_freedom (wsV RX1 57 RX1 yX1_clearBelow wsX1_clearBelow) := goodIn_app (goodIn_of _ (by decide +kernel)) ggX1_freedom_X1_clearBelow
theorem dX1_freedom_0 : decode cX1_freedom 0 = .ok (.iconst 0, 1) := by decide +kernel
theorem dX1_freedom_1 : decode cX1_freedom 1 = .ok (.istore_n 1, 1) := by decide +kernel
theorem dX1_freedom_2 : decode cX1_freedom 2 = .ok (.iconst 0, 1) := by decide +kernel
theorem dX1_freedom_3 : decode cX1_freedom 3 = .ok (.istore_n 2, 1) := by decide +kernel
theorem dX1_freedom_4 : decode cX1_freedom 4 = .ok (.iload_n 2, 1) := by decide +kernel
theorem dX1_freedom_5 : decode cX1_freedom 5 = .ok (.aload_n 0, 1) := by decide +kernel
theorem dX1_freedom_6 : decode cX1_freedom 6 = .ok (.getfield 19, 3) := by decide +kernel
theorem dX1_freedom_9 : decode cX1_freedom 9 = .ok (.if_icmp .ge 36, 3) := by decide +kernel
theorem dX1_freedom_12 : decode cX1_freedom 12 = .ok (.aload_n 0, 1) := by decide +kernel
theorem dX1_freedom_13 : decode cX1_freedom 13 = .ok (.iload_n 1, 1) := by decide +kernel
theorem dX1_freedom_14 : decode cX1_freedom 14 = .ok (.iload_n 2, 1) := by decide +kernel
theorem dX1_freedom_15 : decode cX1_freedom 15 = .ok (.invokevirtual 50, 3) := by decide +kernel
theorem dX1_freedom_18 : decode cX1_freedom 18 = .ok (.istore_n 3, 1) := by decide +kernel
theorem dX1_freedom_19 : decode cX1_freedom 19 = .ok (.iload_n 3, 1) := by decide +kernel
theorem dX1_freedom_20 : decode cX1_freedom 20 = .ok (.iconst (-1), 1) := by decide +kernel
theorem dX1_freedom_21 : decode cX1_freedom 21 = .ok (.if_icmp .eq 18, 3) := by decide +kernel
theorem dX1_freedom_24 : decode cX1_freedom 24 = .ok (.aload_n 0, 1) := by decide +kernel
theorem dX1_freedom_25 : decode cX1_freedom 25 = .ok (.iload_n 1, 1) := by decide +kernel
theorem dX1_freedom_26 : decode cX1_freedom 26 = .ok (.iload_n 3, 1) := by decide +kernel
theorem dX1_freedom_27 : decode cX1_freedom 27 = .ok (.invokevirtual 53, 3) := by decide +kernel
theorem dX1_freedom_30 : decode cX1_freedom 30 = .ok (.aload_n 0, 1) := by decide +kernel
theorem dX1_freedom_31 : decode cX1_freedom 31 = .ok (.iload_n 1, 1) := by decide +kernel
theorem dX1_freedom_32 : decode cX1_freedom 32 = .ok (.iload_n 2, 1) := by decide +kernel
theorem dX1_freedom_33 : decode cX1_freedom 33 = .ok (.invokevirtual 57, 3) := by decide +kernel
theorem dX1_freedom_36 : decode cX1_freedom 36 = .ok (.iinc 1 1, 3) := by decide +kernel
theorem dX1_freedom_39 : decode cX1_freedom 39 = .ok (.iinc 2 1, 3) := by decide +kernel
theorem dX1_freedom_42 : decode cX1_freedom 42 = .ok (.goto (-38), 3) := by decide +kernel
theorem dX1_freedom_45 : decode cX1_freedom 45 = .ok (.aload_n 0, 1) := by decide +kernel
theorem dX1_freedom_46 : decode cX1_freedom 46 = .ok (.getfield 19, 3) := by decide +kernel
theorem dX1_freedom_49 : decode cX1_freedom 49 = .ok (.iload_n 1, 1) := by decide +kernel
theorem dX1_freedom_50 : decode cX1_freedom 50 = .ok (.isub, 1) := by decide +kernel
theorem dX1_freedom_51 : decode cX1_freedom 51 = .ok (.ireturn, 1) := by decide +kernel
set_option maxRecDepth 20000 in
theorem ggX1_findPivot_X1_cell : GoodIn wsX1_findPivot wsX1_cell := goodIn_r _ [6, 7, 8, 9, 10, 11, 12, 13, 14] (by decide +kernel) (by decide +kernel)
set_option maxRecDepth 20000 in
theorem gX1_findPivot_X1_cell : GoodIn wsX1_findPivot (wsV RX1 60 RX1 yX1_cell wsX1_cell) := goodIn_app (goodIn_of _ (by decide +kernel)) ggX1_findPivot_X1_cell
theorem dX1_findPivot_0 : decode cX1_findPivot 0 = .ok (.iload_n 1, 1) := by decide +kernel
theorem dX1_findPivot_1 : decode cX1_findPivot 1 = .ok (.istore_n 3, 1) := by decide +kernel
theorem dX1_findPivot_2 : decode cX1_findPivot 2 = .ok (.iload_n 3, 1) := by decide +kernel
theorem dX1_findPivot_3 : decode cX1_findPivot 3 = .ok (.aload_n 0, 1) := by decide +kernel
theorem dX1_findPivot_4 : decode cX1_findPivot 4 = .ok (.getfield 23, 3) := by decide +kernel
theorem dX1_findPivot_7 : decode cX1_findPivot 7 = .ok (.if_icmp .ge 20, 3) := by decide +kernel
theorem dX1_findPivot_10 : decode cX1_findPivot 10 = .ok (.aload_n 0, 1) := by decide +kernel
theorem dX1_findPivot_11 : decode cX1_findPivot 11 = .ok (.iload_n 3, 1) := by decide +kernel
theorem dX1_findPivot_12 : decode cX1_findPivot 12 = .ok (.iload_n 2, 1) := by decide +kernel
theorem dX1_findPivot_13 : decode cX1_findPivot 13 = .ok (.invokevirtual 60, 3) := by decide +kernel
theorem dX1_findPivot_16 : decode cX1_findPivot 16 = .ok (.ifCond .eq 5, 3) := by decide +kernel
theorem dX1_findPivot_19 : decode cX1_findPivot 19 = .ok (.iload_n 3, 1) := by decide +kernel
theorem dX1_findPivot_20 : decode cX1_findPivot 20 = .ok (.ireturn, 1) := by decide +kernel
theorem dX1_findPivot_21 : decode cX1_findPivot 21 = .ok (.iinc 3 1, 3) := by decide +kernel
theorem dX1_findPivot_24 : decode cX1_findPivot 24 = .ok (.goto (-22), 3) := by decide +kernel
theorem dX1_findPivot_27 : decode cX1_findPivot 27 = .ok (.iconst (-1), 1) := by decide +kernel
theorem dX1_findPivot_28 : decode cX1_findPivot 28 = .ok (.ireturn, 1) := by decide +kernel
set_option maxRecDepth 20000 in
theorem ggX1_swap_X1_cell : GoodIn wsX1_swap wsX1_cell := goodIn_r _ [6, 7, 8, 9, 10, 28, 29, 30, 31] (by decide +kernel) (by decide +kernel)
set_option maxRecDepth 20000 in
theorem gX1_swap_X1_cell : GoodIn wsX1_swap (wsV RX1 60 RX1 yX1_cell wsX1_cell) := goodIn_app (goodIn_of _ (by decide +kernel)) ggX1_swap_X1_cell
set_option maxRecDepth 20000 in
theorem ggX1_swap_X1_put : GoodIn wsX1_swap wsX1_put := goodIn_r _ [14, 7, 15, 16, 17, 18, 19, 20, 21, 22, 23, 24, 25, 26, 9, 27, 28, 29, 30, 31, 32] (by decide +kernel) (by decide +kernel)
set_option maxRecDepth 20000 in
theorem gX1_swap_X1_put : GoodIn wsX1_swap (wsV RX1 46 RX1 yX1_put wsX1_put) := goodIn_app (goodIn_of _ (by decide +kernel)) ggX1_swap_X1_put
theorem dX1_swap_0 : decode cX1_swap 0 = .ok (.iconst 0, 1) := by decide +kernel
theorem dX1_swap_1 : decode cX1_swap 1 = .ok (.istore_n 3, 1) := by decide +kernel
theorem dX1_swap_2 : decode cX1_swap 2 = .ok (.iload_n 3, 1) := by decide +kernel
theorem dX1_swap_3 : decode cX1_swap 3 = .ok (.aload_n 0, 1) := by decide +kernel
theorem dX1_swap_4 : decode cX1_swap 4 = .ok (.getfield 19, 3) := by decide +kernel
theorem dX1_swap_7 : decode cX1_swap 7 = .ok (.if_icmp .ge 37, 3) := by decide +kernel
theorem dX1_swap_10 : decode cX1_swap 10 = .ok (.aload_n 0, 1) := by decide +kernel
theorem dX1_swap_11 : decode cX1_swap 11 = .ok (.iload_n 1, 1) := by decide +kernel
theorem dX1_swap_12 : decode cX1_swap 12 = .ok (.iload_n 3, 1) := by decide +kernel
theorem dX1_swap_13 : decode cX1_swap 13 = .ok (.invokevirtual 60, 3) := by decide +kernel
theorem dX1_swap_16 : decode cX1_swap 16 = .ok (.istore 4, 2) := by decide +kernel
theorem dX1_swap_18 : decode cX1_swap 18 = .ok (.aload_n 0, 1) := by decide +kernel
theorem dX1_swap_19 : decode cX1_swap 19 = .ok (.iload_n 1, 1) := by decide +kernel
theorem dX1_swap_20 : decode cX1_swap 20 = .ok (.iload_n 3, 1) := by decide +kernel
theorem dX1_swap_21 : decode cX1_swap 21 = .ok (.aload_n 0, 1) := by decide +kernel
theorem dX1_swap_22 : decode cX1_swap 22 = .ok (.iload_n 2, 1) := by decide +kernel
theorem dX1_swap_23 : decode cX1_swap 23 = .ok (.iload_n 3, 1) := by decide +kernel
theorem dX1_swap_24 : decode cX1_swap 24 = .ok (.invokevirtual 60, 3) := by decide +kernel
theorem dX1_swap_27 : decode cX1_swap 27 = .ok (.invokevirtual 46, 3) := by decide +kernel
theorem dX1_swap_30 : decode cX1_swap 30 = .ok (.aload_n 0, 1) := by decide +kernel
theorem dX1_swap_31 : decode cX1_swap 31 = .ok (.iload_n 2, 1) := by decide +kernel
theorem dX1_swap_32 : decode cX1_swap 32 = .ok (.iload_n 3, 1) := by decide +kernel
theorem dX1_swap_33 : decode cX1_swap 33 = .ok (.iload 4, 2) := by decide +kernel
theorem dX1_swap_35 : decode cX1_swap 35 = .ok (.invokevirtual 46, 3) := by decide +kernel
theorem dX1_swap_38 : decode cX1_swap 38 = .ok (.iinc 3 1, 3) := by decide +kernel
theorem dX1_swap_41 : decode cX1_swap 41 = .ok (.goto (-39), 3) := by decide +kernel
theorem dX1_swap_44 : decode cX1_swap 44 = .ok (.return_, 1) := by decide +kernel
set_option maxRecDepth 20000 in
theorem ggX1_clearBelow_X1_cell : GoodIn wsX1_clearBelow wsX1_cell := goodIn_r _ [8, 9, 10, 11, 12, 34, 35, 36, 37] (by decide +kernel) (by decide +kernel)
set_option maxRecDepth 20000 in
theorem gX1_clearBelow_X1_cell : GoodIn wsX1_clearBelow (wsV RX1 60 RX1 yX1_cell wsX1_cell) := goodIn_app (goodIn_of _ (by decide +kernel)) ggX1_clearBelow_X1_cell
set_option maxRecDepth 20000 in
theorem ggX1_clearBelow_X2_inverse : GoodIn wsX1_clearBelow wsX2_inverse := goodIn_r _ [17, 18, 19, 20, 21, 16, 22, 23, 24, 25, 26, 38] (by decide +kernel) (by decide +kernel)
set_option maxRecDepth 20000 in
theorem gX1_clearBelow_X2_inverse : GoodIn wsX1_clearBelow (wsV RX1 61 RX2 yX2_inverse wsX2_inverse) := goodIn_app (goodIn_of _ (by decide +kernel)) ggX1_clearBelow_X2_inverse
set_option maxRecDepth 20000 in
theorem ggX1_clearBelow_X2_rest : GoodIn wsX1_clearBelow wsX2_rest := goodIn_r _ [22, 18, 23, 24, 25, 26, 38] (by decide +kernel) (by decide +kernel)
set_option maxRecDepth 20000 in
theorem gX1_clearBelow_X2_rest : GoodIn wsX1_clearBelow (wsV RX1 30 RX2 yX2_rest wsX2_rest) := goodIn_app (goodIn_of _ (by decide +kernel)) ggX1_clearBelow_X2_rest
set_option maxRecDepth 20000 in
theorem ggX1_clearBelow_X1_put : GoodIn wsX1_clearBelow wsX1_put := goodIn_r _ [31, 9, 1, 27, 20, 21, 16, 22, 18, 23, 24, 25, 26, 32, 11, 33, 34, 35, 36, 37, 38] (by decide +kernel) (by decide +kernel)
set_option maxRecDepth 20000 in
theorem gX1_clearBelow_X1_put : GoodIn wsX1_clearBelow (wsV RX1 46 RX1 yX1_put wsX1_put) := goodIn_app (goodIn_of _ (by decide +kernel)) ggX1_clearBelow_X1_put
theorem dX1_clearBelow_0 : decode cX1_clearBelow 0 = .ok (.aload_n 0, 1) := by decide +kernel
theorem dX1_clearBelow_1 : decode cX1_clearBelow 1 = .ok (.getfield 15, 3) := by decide +kernel
theorem dX1_clearBelow_4 : decode cX1_clearBelow 4 = .ok (.aload_n 0, 1) := by decide +kernel
theorem dX1_clearBelow_5 : decode cX1_clearBelow 5 = .ok (.iload_n 1, 1) := by decide +kernel
theorem dX1_clearBelow_6 : decode cX1_clearBelow 6 = .ok (.iload_n 2, 1) := by decide +kernel
theorem dX1_clearBelow_7 : decode cX1_clearBelow 7 = .ok (.invokevirtual 60, 3) := by decide +kernel
theorem dX1_clearBelow_10 : decode cX1_clearBelow 10 = .ok (.invokevirtual 61, 3) := by decide +kernel
theorem dX1_clearBelow_13 : decode cX1_clearBelow 13 = .ok (.istore_n 3, 1) := by decide +kernel
theorem dX1_clearBelow_14 : decode cX1_clearBelow 14 = .ok (.iload_n 1, 1) := by decide +kernel
theorem dX1_clearBelow_15 : decode cX1_clearBelow 15 = .ok (.iconst 1, 1) := by decide +kernel
theorem dX1_clearBelow_16 : decode cX1_clearBelow 16 = .ok (.iadd, 1) := by decide +kernel
theorem dX1_clearBelow_17 : decode cX1_clearBelow 17 = .ok (.istore 4, 2) := by decide +kernel
theorem dX1_clearBelow_19 : decode cX1_clearBelow 19 = .ok (.iload 4, 2) := by decide +kernel
theorem dX1_clearBelow_21 : decode cX1_clearBelow 21 = .ok (.aload_n 0, 1) := by decide +kernel
theorem dX1_clearBelow_22 : decode cX1_clearBelow 22 = .ok (.getfield 23, 3) := by decide +kernel
theorem dX1_clearBelow_25 : decode cX1_clearBelow 25 = .ok (.if_icmp .ge 77, 3) := by decide +kernel
theorem dX1_clearBelow_28 : decode cX1_clearBelow 28 = .ok (.aload_n 0, 1) := by decide +kernel
theorem dX1_clearBelow_29 : decode cX1_clearBelow 29 = .ok (.getfield 15, 3) := by decide +kernel
theorem dX1_clearBelow_32 : decode cX1_clearBelow 32 = .ok (.aload_n 0, 1) := by decide +kernel
theorem dX1_clearBelow_33 : decode cX1_clearBelow 33 = .ok (.iload 4, 2) := by decide +kernel
theorem dX1_clearBelow_35 : decode cX1_clearBelow 35 = .ok (.iload_n 2, 1) := by decide +kernel
theorem dX1_clearBelow_36 : decode cX1_clearBelow 36 = .ok (.invokevirtual 60, 3) := by decide +kernel
theorem dX1_clearBelow_39 : decode cX1_clearBelow 39 = .ok (.iload_n 3, 1) := by decide +kernel
theorem dX1_clearBelow_40 : decode cX1_clearBelow 40 = .ok (.imul, 1) := by decide +kernel
theorem dX1_clearBelow_41 : decode cX1_clearBelow 41 = .ok (.invokevirtual 30, 3) := by decide +kernel
theorem dX1_clearBelow_44 : decode cX1_clearBelow 44 = .ok (.istore 5, 2) := by decide +kernel
theorem dX1_clearBelow_46 : decode cX1_clearBelow 46 = .ok (.iload_n 2, 1) := by decide +kernel
theorem dX1_clearBelow_47 : decode cX1_clearBelow 47 = .ok (.istore 6, 2) := by decide +kernel
theorem dX1_clearBelow_49 : decode cX1_clearBelow 49 = .ok (.iload 5, 2) := by decide +kernel
theorem dX1_clearBelow_51 : decode cX1_clearBelow 51 = .ok (.ifCond .eq 45, 3) := by decide +kernel
theorem dX1_clearBelow_54 : decode cX1_clearBelow 54 = .ok (.iload 6, 2) := by decide +kernel
theorem dX1_clearBelow_56 : decode cX1_clearBelow 56 = .ok (.aload_n 0, 1) := by decide +kernel
theorem dX1_clearBelow_57 : decode cX1_clearBelow 57 = .ok (.getfield 19, 3) := by decide +kernel
theorem dX1_clearBelow_60 : decode cX1_clearBelow 60 = .ok (.if_icmp .ge 36, 3) := by decide +kernel
theorem dX1_clearBelow_63 : decode cX1_clearBelow 63 = .ok (.aload_n 0, 1) := by decide +kernel
theorem dX1_clearBelow_64 : decode cX1_clearBelow 64 = .ok (.iload 4, 2) := by decide +kernel
theorem dX1_clearBelow_66 : decode cX1_clearBelow 66 = .ok (.iload 6, 2) := by decide +kernel
theorem dX1_clearBelow_68 : decode cX1_clearBelow 68 = .ok (.aload_n 0, 1) := by decide +kernel
theorem dX1_clearBelow_69 : decode cX1_clearBelow 69 = .ok (.iload 4, 2) := by decide +kernel
theorem dX1_clearBelow_71 : decode cX1_clearBelow 71 = .ok (.iload 6, 2) := by decide +kernel
theorem dX1_clearBelow_73 : decode cX1_clearBelow 73 = .ok (.invokevirtual 60, 3) := by decide +kernel
theorem dX1_clearBelow_76 : decode cX1_clearBelow 76 = .ok (.iload 5, 2) := by decide +kernel
theorem dX1_clearBelow_78 : decode cX1_clearBelow 78 = .ok (.aload_n 0, 1) := by decide +kernel
theorem dX1_clearBelow_79 : decode cX1_clearBelow 79 = .ok (.iload_n 1, 1) := by decide +kernel
theorem dX1_clearBelow_80 : decode cX1_clearBelow 80 = .ok (.iload 6, 2) := by decide +kernel
theorem dX1_clearBelow_82 : decode cX1_clearBelow 82 = .ok (.invokevirtual 60, 3) := by decide +kernel
theorem dX1_clearBelow_85 : decode cX1_clearBelow 85 = .ok (.imul, 1) := by decide +kernel
theorem dX1_clearBelow_86 : decode cX1_clearBelow 86 = .ok (.isub, 1) := by decide +kernel
theorem dX1_clearBelow_87 : decode cX1_clearBelow 87 = .ok (.invokevirtual 46, 3) := by decide +kernel
theorem dX1_clearBelow_90 : decode cX1_clearBelow 90 = .ok (.iinc 6 1, 3) := by decide +kernel
theorem dX1_clearBelow_93 : decode cX1_clearBelow 93 = .ok (.goto (-44), 3) := by decide +kernel
theorem dX1_clearBelow_96 : decode cX1_clearBelow 96 = .ok (.iinc 4 1, 3) := by decide +kernel
theorem dX1_clearBelow_99 : decode cX1_clearBelow 99 = .ok (.goto (-80), 3) := by decide +kernel
theorem dX1_clearBelow_102 : decode cX1_clearBelow 102 = .ok (.return_, 1) := by decide +kernel
theorem dX2_init_0 : decode cX2_init 0 = .ok (.aload_n 0, 1) := by decide +kernel
theorem dX2_init_1 : decode cX2_init 1 = .ok (.invokespecial 3, 3) := by decide +kernel
theorem dX2_init_4 : decode cX2_init 4 = .ok (.aload_n 0, 1) := by decide +kernel
theorem dX2_init_5 : decode cX2_init 5 = .ok (.iload_n 1, 1) := by decide +kernel
theorem dX2_init_6 : decode cX2_init 6 = .ok (.putfield 9, 3) := by decide +kernel
theorem dX2_init_9 : decode cX2_init 9 = .ok (.return_, 1) := by decide +kernel
theorem dX2_has_0 : decode cX2_has 0 = .ok (.iload_n 1, 1) := by decide +kernel
theorem dX2_has_1 : decode cX2_has 1 = .ok (.ifCond .lt 15, 3) := by decide +kernel
theorem dX2_has_4 : decode cX2_has 4 = .ok (.iload_n 1, 1) := by decide +kernel
theorem dX2_has_5 : decode cX2_has 5 = .ok (.aload_n 0, 1) := by decide +kernel
theorem dX2_has_6 : decode cX2_has 6 = .ok (.getfield 9, 3) := by decide +kernel
theorem dX2_has_9 : decode cX2_has 9 = .ok (.if_icmp .ge 7, 3) := by decide +kernel
theorem dX2_has_12 : decode cX2_has 12 = .ok (.iconst 1, 1) := by decide +kernel
theorem dX2_has_13 : decode cX2_has 13 = .ok (.goto 4, 3) := by decide +kernel
theorem dX2_has_16 : decode cX2_has 16 = .ok (.iconst 0, 1) := by decide +kernel
theorem dX2_has_17 : decode cX2_has 17 = .ok (.ireturn, 1) := by decide +kernel
set_option maxRecDepth 20000 in
theorem ggX2_rest_J9_floorMod_7cf53 : GoodIn wsX2_rest wsJ9_floorMod_7cf53 := goodIn_r _ [5] (by decide +kernel) (by decide +kernel)
set_option maxRecDepth 20000 in
theorem gX2_rest_J9_floorMod_7cf53 : GoodIn wsX2_rest (va_wsS RX2 15 yJ9_floorMod_7cf53 wsJ9_floorMod_7cf53) := goodIn_app (goodIn_of _ (by decide +kernel)) ggX2_rest_J9_floorMod_7cf53
theorem dX2_rest_0 : decode cX2_rest 0 = .ok (.aload_n 0, 1) := by decide +kernel
theorem dX2_rest_1 : decode cX2_rest 1 = .ok (.getfield 9, 3) := by decide +kernel
theorem dX2_rest_4 : decode cX2_rest 4 = .ok (.ifCond .le 14, 3) := by decide +kernel
theorem dX2_rest_7 : decode cX2_rest 7 = .ok (.iload_n 1, 1) := by decide +kernel
theorem dX2_rest_8 : decode cX2_rest 8 = .ok (.aload_n 0, 1) := by decide +kernel
theorem dX2_rest_9 : decode cX2_rest 9 = .ok (.getfield 9, 3) := by decide +kernel
theorem dX2_rest_12 : decode cX2_rest 12 = .ok (.invokestatic 15, 3) := by decide +kernel
theorem dX2_rest_15 : decode cX2_rest 15 = .ok (.goto 4, 3) := by decide +kernel
theorem dX2_rest_18 : decode cX2_rest 18 = .ok (.iconst 0, 1) := by decide +kernel
theorem dX2_rest_19 : decode cX2_rest 19 = .ok (.ireturn, 1) := by decide +kernel
set_option maxRecDepth 20000 in
theorem ggX2_power_X2_rest : GoodIn wsX2_power wsX2_rest := goodIn_r _ [5, 6, 7, 8, 9, 10, 11] (by decide +kernel) (by decide +kernel)
set_option maxRecDepth 20000 in
theorem gX2_power_X2_rest : GoodIn wsX2_power (wsV RX2 21 RX2 yX2_rest wsX2_rest) := goodIn_app (goodIn_of _ (by decide +kernel)) ggX2_power_X2_rest
theorem dX2_power_0 : decode cX2_power 0 = .ok (.iconst 1, 1) := by decide +kernel
theorem dX2_power_1 : decode cX2_power 1 = .ok (.istore_n 3, 1) := by decide +kernel
theorem dX2_power_2 : decode cX2_power 2 = .ok (.iconst 0, 1) := by decide +kernel
theorem dX2_power_3 : decode cX2_power 3 = .ok (.istore 4, 2) := by decide +kernel
theorem dX2_power_5 : decode cX2_power 5 = .ok (.iload 4, 2) := by decide +kernel
theorem dX2_power_7 : decode cX2_power 7 = .ok (.iload_n 2, 1) := by decide +kernel
theorem dX2_power_8 : decode cX2_power 8 = .ok (.if_icmp .ge 17, 3) := by decide +kernel
theorem dX2_power_11 : decode cX2_power 11 = .ok (.aload_n 0, 1) := by decide +kernel
theorem dX2_power_12 : decode cX2_power 12 = .ok (.iload_n 3, 1) := by decide +kernel
theorem dX2_power_13 : decode cX2_power 13 = .ok (.iload_n 1, 1) := by decide +kernel
theorem dX2_power_14 : decode cX2_power 14 = .ok (.imul, 1) := by decide +kernel
theorem dX2_power_15 : decode cX2_power 15 = .ok (.invokevirtual 21, 3) := by decide +kernel
theorem dX2_power_18 : decode cX2_power 18 = .ok (.istore_n 3, 1) := by decide +kernel
theorem dX2_power_19 : decode cX2_power 19 = .ok (.iinc 4 1, 3) := by decide +kernel
theorem dX2_power_22 : decode cX2_power 22 = .ok (.goto (-17), 3) := by decide +kernel
theorem dX2_power_25 : decode cX2_power 25 = .ok (.iload_n 3, 1) := by decide +kernel
theorem dX2_power_26 : decode cX2_power 26 = .ok (.ireturn, 1) := by decide +kernel
set_option maxRecDepth 20000 in
theorem ggX2_inverse_X2_rest : GoodIn wsX2_inverse wsX2_rest := goodIn_r _ [6, 1, 7, 8, 9, 10, 11] (by decide +kernel) (by decide +kernel)
set_option maxRecDepth 20000 in
theorem gX2_inverse_X2_rest : GoodIn wsX2_inverse (wsV RX2 21 RX2 yX2_rest wsX2_rest) := goodIn_app (goodIn_of _ (by decide +kernel)) ggX2_inverse_X2_rest
theorem dX2_inverse_0 : decode cX2_inverse 0 = .ok (.iconst 1, 1) := by decide +kernel
theorem dX2_inverse_1 : decode cX2_inverse 1 = .ok (.istore_n 2, 1) := by decide +kernel
theorem dX2_inverse_2 : decode cX2_inverse 2 = .ok (.iload_n 2, 1) := by decide +kernel
theorem dX2_inverse_3 : decode cX2_inverse 3 = .ok (.aload_n 0, 1) := by decide +kernel
theorem dX2_inverse_4 : decode cX2_inverse 4 = .ok (.getfield 9, 3) := by decide +kernel
theorem dX2_inverse_7 : decode cX2_inverse 7 = .ok (.if_icmp .ge 26, 3) := by decide +kernel
theorem dX2_inverse_10 : decode cX2_inverse 10 = .ok (.aload_n 0, 1) := by decide +kernel
theorem dX2_inverse_11 : decode cX2_inverse 11 = .ok (.aload_n 0, 1) := by decide +kernel
theorem dX2_inverse_12 : decode cX2_inverse 12 = .ok (.iload_n 1, 1) := by decide +kernel
theorem dX2_inverse_13 : decode cX2_inverse 13 = .ok (.invokevirtual 21, 3) := by decide +kernel
theorem dX2_inverse_16 : decode cX2_inverse 16 = .ok (.iload_n 2, 1) := by decide +kernel
theorem dX2_inverse_17 : decode cX2_inverse 17 = .ok (.imul, 1) := by decide +kernel
theorem dX2_inverse_18 : decode cX2_inverse 18 = .ok (.invokevirtual 21, 3) := by decide +kernel
theorem dX2_inverse_21 : decode cX2_inverse 21 = .ok (.iconst 1, 1) := by decide +kernel
theorem dX2_inverse_22 : decode cX2_inverse 22 = .ok (.if_icmp .ne 5, 3) := by decide +kernel
theorem dX2_inverse_25 : decode cX2_inverse 25 = .ok (.iload_n 2, 1) := by decide +kernel
theorem dX2_inverse_26 : decode cX2_inverse 26 = .ok (.ireturn, 1) := by decide +kernel
theorem dX2_inverse_27 : decode cX2_inverse 27 = .ok (.iinc 2 1, 3) := by decide +kernel
theorem dX2_inverse_30 : decode cX2_inverse 30 = .ok (.goto (-28), 3) := by decide +kernel
theorem dX2_inverse_33 : decode cX2_inverse 33 = .ok (.iconst 0, 1) := by decide +kernel
theorem dX2_inverse_34 : decode cX2_inverse 34 = .ok (.ireturn, 1) := by decide +kernel
theorem dX2_howMany_0 : decode cX2_howMany 0 = .ok (.iconst 1, 1) := by decide +kernel
theorem dX2_howMany_1 : decode cX2_howMany 1 = .ok (.istore_n 2, 1) := by decide +kernel
theorem dX2_howMany_2 : decode cX2_howMany 2 = .ok (.iconst 0, 1) := by decide +kernel
theorem dX2_howMany_3 : decode cX2_howMany 3 = .ok (.istore_n 3, 1) := by decide +kernel
theorem dX2_howMany_4 : decode cX2_howMany 4 = .ok (.iload_n 3, 1) := by decide +kernel
theorem dX2_howMany_5 : decode cX2_howMany 5 = .ok (.iload_n 1, 1) := by decide +kernel
theorem dX2_howMany_6 : decode cX2_howMany 6 = .ok (.if_icmp .ge 16, 3) := by decide +kernel
theorem dX2_howMany_9 : decode cX2_howMany 9 = .ok (.iload_n 2, 1) := by decide +kernel
theorem dX2_howMany_10 : decode cX2_howMany 10 = .ok (.aload_n 0, 1) := by decide +kernel
theorem dX2_howMany_11 : decode cX2_howMany 11 = .ok (.getfield 9, 3) := by decide +kernel
theorem dX2_howMany_14 : decode cX2_howMany 14 = .ok (.imul, 1) := by decide +kernel
theorem dX2_howMany_15 : decode cX2_howMany 15 = .ok (.istore_n 2, 1) := by decide +kernel
theorem dX2_howMany_16 : decode cX2_howMany 16 = .ok (.iinc 3 1, 3) := by decide +kernel
theorem dX2_howMany_19 : decode cX2_howMany 19 = .ok (.goto (-15), 3) := by decide +kernel
theorem dX2_howMany_22 : decode cX2_howMany 22 = .ok (.iload_n 2, 1) := by decide +kernel
theorem dX2_howMany_23 : decode cX2_howMany 23 = .ok (.ireturn, 1) := by decide +kernel
set_option maxRecDepth 20000 in
theorem ggX2_exponent_X2_howMany : GoodIn wsX2_exponent wsX2_howMany := goodIn_r _ [5, 6, 7] (by decide +kernel) (by decide +kernel)
set_option maxRecDepth 20000 in
theorem gX2_exponent_X2_howMany : GoodIn wsX2_exponent (wsV RX2 25 RX2 yX2_howMany wsX2_howMany) := goodIn_app (goodIn_of _ (by decide +kernel)) ggX2_exponent_X2_howMany
theorem dX2_exponent_0 : decode cX2_exponent 0 = .ok (.iconst 0, 1) := by decide +kernel
theorem dX2_exponent_1 : decode cX2_exponent 1 = .ok (.istore_n 2, 1) := by decide +kernel
theorem dX2_exponent_2 : decode cX2_exponent 2 = .ok (.iload_n 2, 1) := by decide +kernel
theorem dX2_exponent_3 : decode cX2_exponent 3 = .ok (.iconst 5, 1) := by decide +kernel
theorem dX2_exponent_4 : decode cX2_exponent 4 = .ok (.if_icmp .ge 18, 3) := by decide +kernel
theorem dX2_exponent_7 : decode cX2_exponent 7 = .ok (.aload_n 0, 1) := by decide +kernel
theorem dX2_exponent_8 : decode cX2_exponent 8 = .ok (.iload_n 2, 1) := by decide +kernel
theorem dX2_exponent_9 : decode cX2_exponent 9 = .ok (.invokevirtual 25, 3) := by decide +kernel
theorem dX2_exponent_12 : decode cX2_exponent 12 = .ok (.iload_n 1, 1) := by decide +kernel
theorem dX2_exponent_13 : decode cX2_exponent 13 = .ok (.if_icmp .ge 9, 3) := by decide +kernel
theorem dX2_exponent_16 : decode cX2_exponent 16 = .ok (.iinc 2 1, 3) := by decide +kernel
theorem dX2_exponent_19 : decode cX2_exponent 19 = .ok (.goto (-17), 3) := by decide +kernel
theorem dX2_exponent_22 : decode cX2_exponent 22 = .ok (.iload_n 2, 1) := by decide +kernel
theorem dX2_exponent_23 : decode cX2_exponent 23 = .ok (.ireturn, 1) := by decide +kernel
set_option maxRecDepth 20000 in
theorem ggX2_digit_X2_howMany : GoodIn wsX2_digit wsX2_howMany := goodIn_r _ [5, 6, 15] (by decide +kernel) (by decide +kernel)
set_option maxRecDepth 20000 in
theorem gX2_digit_X2_howMany : GoodIn wsX2_digit (wsV RX2 25 RX2 yX2_howMany wsX2_howMany) := goodIn_app (goodIn_of _ (by decide +kernel)) ggX2_digit_X2_howMany
set_option maxRecDepth 20000 in
theorem ggX2_digit_X2_rest : GoodIn wsX2_digit wsX2_rest := goodIn_r _ [10, 6, 11, 12, 13, 14, 15] (by decide +kernel) (by decide +kernel)
set_option maxRecDepth 20000 in
theorem gX2_digit_X2_rest : GoodIn wsX2_digit (wsV RX2 21 RX2 yX2_rest wsX2_rest) := goodIn_app (goodIn_of _ (by decide +kernel)) ggX2_digit_X2_rest
theorem dX2_digit_0 : decode cX2_digit 0 = .ok (.aload_n 0, 1) := by decide +kernel
theorem dX2_digit_1 : decode cX2_digit 1 = .ok (.iload_n 2, 1) := by decide +kernel
theorem dX2_digit_2 : decode cX2_digit 2 = .ok (.invokevirtual 25, 3) := by decide +kernel
theorem dX2_digit_5 : decode cX2_digit 5 = .ok (.istore_n 3, 1) := by decide +kernel
theorem dX2_digit_6 : decode cX2_digit 6 = .ok (.iload_n 3, 1) := by decide +kernel
theorem dX2_digit_7 : decode cX2_digit 7 = .ok (.ifCond .le 13, 3) := by decide +kernel
theorem dX2_digit_10 : decode cX2_digit 10 = .ok (.aload_n 0, 1) := by decide +kernel
theorem dX2_digit_11 : decode cX2_digit 11 = .ok (.iload_n 1, 1) := by decide +kernel
theorem dX2_digit_12 : decode cX2_digit 12 = .ok (.iload_n 3, 1) := by decide +kernel
theorem dX2_digit_13 : decode cX2_digit 13 = .ok (.idiv, 1) := by decide +kernel
theorem dX2_digit_14 : decode cX2_digit 14 = .ok (.invokevirtual 21, 3) := by decide +kernel
theorem dX2_digit_17 : decode cX2_digit 17 = .ok (.goto 4, 3) := by decide +kernel
theorem dX2_digit_20 : decode cX2_digit 20 = .ok (.iconst 0, 1) := by decide +kernel
theorem dX2_digit_21 : decode cX2_digit 21 = .ok (.ireturn, 1) := by decide +kernel
set_option maxRecDepth 20000 in
theorem ggX2_spell_X2_rest : GoodIn wsX2_spell wsX2_rest := goodIn_r _ [6, 1, 7, 8, 9, 10, 14] (by decide +kernel) (by decide +kernel)
set_option maxRecDepth 20000 in
theorem gX2_spell_X2_rest : GoodIn wsX2_spell (wsV RX2 21 RX2 yX2_rest wsX2_rest) := goodIn_app (goodIn_of _ (by decide +kernel)) ggX2_spell_X2_rest
set_option maxRecDepth 20000 in
theorem ggX2_spell_X6_write : GoodIn wsX2_spell wsX6_write := goodIn_r _ [13] (by decide +kernel) (by decide +kernel)
set_option maxRecDepth 20000 in
theorem gX2_spell_X6_write_n28 : GoodIn wsX2_spell (wsX6_write) := ggX2_spell_X6_write
theorem dX2_spell_0 : decode cX2_spell 0 = .ok (.iload_n 1, 1) := by decide +kernel
theorem dX2_spell_1 : decode cX2_spell 1 = .ok (.istore_n 3, 1) := by decide +kernel
theorem dX2_spell_2 : decode cX2_spell 2 = .ok (.iconst 0, 1) := by decide +kernel
theorem dX2_spell_3 : decode cX2_spell 3 = .ok (.istore 4, 2) := by decide +kernel
theorem dX2_spell_5 : decode cX2_spell 5 = .ok (.iload 4, 2) := by decide +kernel
theorem dX2_spell_7 : decode cX2_spell 7 = .ok (.iconst 5, 1) := by decide +kernel
theorem dX2_spell_8 : decode cX2_spell 8 = .ok (.if_icmp .ge 38, 3) := by decide +kernel
theorem dX2_spell_11 : decode cX2_spell 11 = .ok (.aload_n 2, 1) := by decide +kernel
theorem dX2_spell_12 : decode cX2_spell 12 = .ok (.iload 4, 2) := by decide +kernel
theorem dX2_spell_14 : decode cX2_spell 14 = .ok (.aload_n 0, 1) := by decide +kernel
theorem dX2_spell_15 : decode cX2_spell 15 = .ok (.iload_n 3, 1) := by decide +kernel
theorem dX2_spell_16 : decode cX2_spell 16 = .ok (.invokevirtual 21, 3) := by decide +kernel
theorem dX2_spell_19 : decode cX2_spell 19 = .ok (.invokestatic 28, 3) := by decide +kernel
theorem dX2_spell_22 : decode cX2_spell 22 = .ok (.aload_n 0, 1) := by decide +kernel
theorem dX2_spell_23 : decode cX2_spell 23 = .ok (.getfield 9, 3) := by decide +kernel
theorem dX2_spell_26 : decode cX2_spell 26 = .ok (.ifCond .le 12, 3) := by decide +kernel
theorem dX2_spell_29 : decode cX2_spell 29 = .ok (.iload_n 3, 1) := by decide +kernel
theorem dX2_spell_30 : decode cX2_spell 30 = .ok (.aload_n 0, 1) := by decide +kernel
theorem dX2_spell_31 : decode cX2_spell 31 = .ok (.getfield 9, 3) := by decide +kernel
theorem dX2_spell_34 : decode cX2_spell 34 = .ok (.idiv, 1) := by decide +kernel
theorem dX2_spell_35 : decode cX2_spell 35 = .ok (.goto 4, 3) := by decide +kernel
theorem dX2_spell_38 : decode cX2_spell 38 = .ok (.iconst 0, 1) := by decide +kernel
theorem dX2_spell_39 : decode cX2_spell 39 = .ok (.istore_n 3, 1) := by decide +kernel
theorem dX2_spell_40 : decode cX2_spell 40 = .ok (.iinc 4 1, 3) := by decide +kernel
theorem dX2_spell_43 : decode cX2_spell 43 = .ok (.goto (-38), 3) := by decide +kernel
theorem dX2_spell_46 : decode cX2_spell 46 = .ok (.return_, 1) := by decide +kernel
set_option maxRecDepth 20000 in
theorem ggX2_code_X6_read : GoodIn wsX2_code wsX6_read := goodIn_r _ [4] (by decide +kernel) (by decide +kernel)
set_option maxRecDepth 20000 in
theorem gX2_code_X6_read_n32 : GoodIn wsX2_code (wsX6_read) := ggX2_code_X6_read
theorem dX2_code_0 : decode cX2_code 0 = .ok (.iconst 0, 1) := by decide +kernel
theorem dX2_code_1 : decode cX2_code 1 = .ok (.istore_n 3, 1) := by decide +kernel
theorem dX2_code_2 : decode cX2_code 2 = .ok (.iload_n 2, 1) := by decide +kernel
theorem dX2_code_3 : decode cX2_code 3 = .ok (.iconst 1, 1) := by decide +kernel
theorem dX2_code_4 : decode cX2_code 4 = .ok (.isub, 1) := by decide +kernel
theorem dX2_code_5 : decode cX2_code 5 = .ok (.istore 4, 2) := by decide +kernel
theorem dX2_code_7 : decode cX2_code 7 = .ok (.iload 4, 2) := by decide +kernel
theorem dX2_code_9 : decode cX2_code 9 = .ok (.ifCond .lt 23, 3) := by decide +kernel
theorem dX2_code_12 : decode cX2_code 12 = .ok (.iload_n 3, 1) := by decide +kernel
theorem dX2_code_13 : decode cX2_code 13 = .ok (.aload_n 0, 1) := by decide +kernel
theorem dX2_code_14 : decode cX2_code 14 = .ok (.getfield 9, 3) := by decide +kernel
theorem dX2_code_17 : decode cX2_code 17 = .ok (.imul, 1) := by decide +kernel
theorem dX2_code_18 : decode cX2_code 18 = .ok (.aload_n 1, 1) := by decide +kernel
theorem dX2_code_19 : decode cX2_code 19 = .ok (.iload 4, 2) := by decide +kernel
theorem dX2_code_21 : decode cX2_code 21 = .ok (.invokestatic 32, 3) := by decide +kernel
theorem dX2_code_24 : decode cX2_code 24 = .ok (.iadd, 1) := by decide +kernel
theorem dX2_code_25 : decode cX2_code 25 = .ok (.istore_n 3, 1) := by decide +kernel
theorem dX2_code_26 : decode cX2_code 26 = .ok (.iinc 4 (-1), 3) := by decide +kernel
theorem dX2_code_29 : decode cX2_code 29 = .ok (.goto (-22), 3) := by decide +kernel
theorem dX2_code_32 : decode cX2_code 32 = .ok (.iload_n 3, 1) := by decide +kernel
theorem dX2_code_33 : decode cX2_code 33 = .ok (.ireturn, 1) := by decide +kernel
theorem dX2_total_0 : decode cX2_total 0 = .ok (.iconst 0, 1) := by decide +kernel
theorem dX2_total_1 : decode cX2_total 1 = .ok (.istore_n 3, 1) := by decide +kernel
theorem dX2_total_2 : decode cX2_total 2 = .ok (.iload_n 1, 1) := by decide +kernel
theorem dX2_total_3 : decode cX2_total 3 = .ok (.istore 4, 2) := by decide +kernel
theorem dX2_total_5 : decode cX2_total 5 = .ok (.iload_n 2, 1) := by decide +kernel
theorem dX2_total_6 : decode cX2_total 6 = .ok (.istore 5, 2) := by decide +kernel
theorem dX2_total_8 : decode cX2_total 8 = .ok (.iconst 1, 1) := by decide +kernel
theorem dX2_total_9 : decode cX2_total 9 = .ok (.istore 6, 2) := by decide +kernel
theorem dX2_total_11 : decode cX2_total 11 = .ok (.iconst 0, 1) := by decide +kernel
theorem dX2_total_12 : decode cX2_total 12 = .ok (.istore 7, 2) := by decide +kernel
theorem dX2_total_14 : decode cX2_total 14 = .ok (.iload 7, 2) := by decide +kernel
theorem dX2_total_16 : decode cX2_total 16 = .ok (.iconst 5, 1) := by decide +kernel
theorem dX2_total_17 : decode cX2_total 17 = .ok (.if_icmp .ge 69, 3) := by decide +kernel
theorem dX2_total_20 : decode cX2_total 20 = .ok (.aload_n 0, 1) := by decide +kernel
theorem dX2_total_21 : decode cX2_total 21 = .ok (.getfield 9, 3) := by decide +kernel
theorem dX2_total_24 : decode cX2_total 24 = .ok (.ifCond .le 62, 3) := by decide +kernel
theorem dX2_total_27 : decode cX2_total 27 = .ok (.iload_n 3, 1) := by decide +kernel
theorem dX2_total_28 : decode cX2_total 28 = .ok (.iload 4, 2) := by decide +kernel
theorem dX2_total_30 : decode cX2_total 30 = .ok (.aload_n 0, 1) := by decide +kernel
theorem dX2_total_31 : decode cX2_total 31 = .ok (.getfield 9, 3) := by decide +kernel
theorem dX2_total_34 : decode cX2_total 34 = .ok (.irem, 1) := by decide +kernel
theorem dX2_total_35 : decode cX2_total 35 = .ok (.iload 5, 2) := by decide +kernel
theorem dX2_total_37 : decode cX2_total 37 = .ok (.aload_n 0, 1) := by decide +kernel
theorem dX2_total_38 : decode cX2_total 38 = .ok (.getfield 9, 3) := by decide +kernel
theorem dX2_total_41 : decode cX2_total 41 = .ok (.irem, 1) := by decide +kernel
theorem dX2_total_42 : decode cX2_total 42 = .ok (.iadd, 1) := by decide +kernel
theorem dX2_total_43 : decode cX2_total 43 = .ok (.aload_n 0, 1) := by decide +kernel
theorem dX2_total_44 : decode cX2_total 44 = .ok (.getfield 9, 3) := by decide +kernel
theorem dX2_total_47 : decode cX2_total 47 = .ok (.irem, 1) := by decide +kernel
theorem dX2_total_48 : decode cX2_total 48 = .ok (.iload 6, 2) := by decide +kernel
theorem dX2_total_50 : decode cX2_total 50 = .ok (.imul, 1) := by decide +kernel
theorem dX2_total_51 : decode cX2_total 51 = .ok (.iadd, 1) := by decide +kernel
theorem dX2_total_52 : decode cX2_total 52 = .ok (.istore_n 3, 1) := by decide +kernel
theorem dX2_total_53 : decode cX2_total 53 = .ok (.iload 4, 2) := by decide +kernel
theorem dX2_total_55 : decode cX2_total 55 = .ok (.aload_n 0, 1) := by decide +kernel
theorem dX2_total_56 : decode cX2_total 56 = .ok (.getfield 9, 3) := by decide +kernel
theorem dX2_total_59 : decode cX2_total 59 = .ok (.idiv, 1) := by decide +kernel
theorem dX2_total_60 : decode cX2_total 60 = .ok (.istore 4, 2) := by decide +kernel
theorem dX2_total_62 : decode cX2_total 62 = .ok (.iload 5, 2) := by decide +kernel
theorem dX2_total_64 : decode cX2_total 64 = .ok (.aload_n 0, 1) := by decide +kernel
theorem dX2_total_65 : decode cX2_total 65 = .ok (.getfield 9, 3) := by decide +kernel
theorem dX2_total_68 : decode cX2_total 68 = .ok (.idiv, 1) := by decide +kernel
theorem dX2_total_69 : decode cX2_total 69 = .ok (.istore 5, 2) := by decide +kernel
theorem dX2_total_71 : decode cX2_total 71 = .ok (.iload 6, 2) := by decide +kernel
theorem dX2_total_73 : decode cX2_total 73 = .ok (.aload_n 0, 1) := by decide +kernel
theorem dX2_total_74 : decode cX2_total 74 = .ok (.getfield 9, 3) := by decide +kernel
theorem dX2_total_77 : decode cX2_total 77 = .ok (.imul, 1) := by decide +kernel
theorem dX2_total_78 : decode cX2_total 78 = .ok (.istore 6, 2) := by decide +kernel
theorem dX2_total_80 : decode cX2_total 80 = .ok (.iinc 7 1, 3) := by decide +kernel
theorem dX2_total_83 : decode cX2_total 83 = .ok (.goto (-69), 3) := by decide +kernel
theorem dX2_total_86 : decode cX2_total 86 = .ok (.iload_n 3, 1) := by decide +kernel
theorem dX2_total_87 : decode cX2_total 87 = .ok (.ireturn, 1) := by decide +kernel
set_option maxRecDepth 20000 in
theorem ggX2_multiple_X2_total : GoodIn wsX2_multiple wsX2_total := goodIn_r _ [5, 6, 7] (by decide +kernel) (by decide +kernel)
set_option maxRecDepth 20000 in
theorem gX2_multiple_X2_total : GoodIn wsX2_multiple (wsV RX2 36 RX2 yX2_total wsX2_total) := goodIn_app (goodIn_of _ (by decide +kernel)) ggX2_multiple_X2_total
theorem dX2_multiple_0 : decode cX2_multiple 0 = .ok (.iconst 0, 1) := by decide +kernel
theorem dX2_multiple_1 : decode cX2_multiple 1 = .ok (.istore_n 3, 1) := by decide +kernel
theorem dX2_multiple_2 : decode cX2_multiple 2 = .ok (.iconst 0, 1) := by decide +kernel
theorem dX2_multiple_3 : decode cX2_multiple 3 = .ok (.istore 4, 2) := by decide +kernel
theorem dX2_multiple_5 : decode cX2_multiple 5 = .ok (.iload 4, 2) := by decide +kernel
theorem dX2_multiple_7 : decode cX2_multiple 7 = .ok (.iload_n 2, 1) := by decide +kernel
theorem dX2_multiple_8 : decode cX2_multiple 8 = .ok (.if_icmp .ge 16, 3) := by decide +kernel
theorem dX2_multiple_11 : decode cX2_multiple 11 = .ok (.aload_n 0, 1) := by decide +kernel
theorem dX2_multiple_12 : decode cX2_multiple 12 = .ok (.iload_n 3, 1) := by decide +kernel
theorem dX2_multiple_13 : decode cX2_multiple 13 = .ok (.iload_n 1, 1) := by decide +kernel
theorem dX2_multiple_14 : decode cX2_multiple 14 = .ok (.invokevirtual 36, 3) := by decide +kernel
theorem dX2_multiple_17 : decode cX2_multiple 17 = .ok (.istore_n 3, 1) := by decide +kernel
theorem dX2_multiple_18 : decode cX2_multiple 18 = .ok (.iinc 4 1, 3) := by decide +kernel
theorem dX2_multiple_21 : decode cX2_multiple 21 = .ok (.goto (-16), 3) := by decide +kernel
theorem dX2_multiple_24 : decode cX2_multiple 24 = .ok (.iload_n 3, 1) := by decide +kernel
theorem dX2_multiple_25 : decode cX2_multiple 25 = .ok (.ireturn, 1) := by decide +kernel
set_option maxRecDepth 20000 in
theorem ggX2_determinant_X2_digit : GoodIn wsX2_determinant wsX2_digit := goodIn_r _ [5, 6, 7, 8, 4, 9, 10, 11, 12, 13, 14, 15, 16, 17, 18, 19] (by decide +kernel) (by decide +kernel)
set_option maxRecDepth 20000 in
theorem gX2_determinant_X2_digit : GoodIn wsX2_determinant (wsV RX2 39 RX2 yX2_digit wsX2_digit) := goodIn_app (goodIn_of _ (by decide +kernel)) ggX2_determinant_X2_digit
set_option maxRecDepth 20000 in
theorem ggX2_determinant_X2_rest : GoodIn wsX2_determinant wsX2_rest := goodIn_r _ [14, 10, 15, 16, 17, 18, 19] (by decide +kernel) (by decide +kernel)
set_option maxRecDepth 20000 in
theorem gX2_determinant_X2_rest : GoodIn wsX2_determinant (wsV RX2 21 RX2 yX2_rest wsX2_rest) := goodIn_app (goodIn_of _ (by decide +kernel)) ggX2_determinant_X2_rest
theorem dX2_determinant_0 : decode cX2_determinant 0 = .ok (.aload_n 0, 1) := by decide +kernel
theorem dX2_determinant_1 : decode cX2_determinant 1 = .ok (.aload_n 0, 1) := by decide +kernel
theorem dX2_determinant_2 : decode cX2_determinant 2 = .ok (.iload_n 1, 1) := by decide +kernel
theorem dX2_determinant_3 : decode cX2_determinant 3 = .ok (.iconst 0, 1) := by decide +kernel
theorem dX2_determinant_4 : decode cX2_determinant 4 = .ok (.invokevirtual 39, 3) := by decide +kernel
theorem dX2_determinant_7 : decode cX2_determinant 7 = .ok (.aload_n 0, 1) := by decide +kernel
theorem dX2_determinant_8 : decode cX2_determinant 8 = .ok (.iload_n 1, 1) := by decide +kernel
theorem dX2_determinant_9 : decode cX2_determinant 9 = .ok (.iconst 3, 1) := by decide +kernel
theorem dX2_determinant_10 : decode cX2_determinant 10 = .ok (.invokevirtual 39, 3) := by decide +kernel
theorem dX2_determinant_13 : decode cX2_determinant 13 = .ok (.imul, 1) := by decide +kernel
theorem dX2_determinant_14 : decode cX2_determinant 14 = .ok (.aload_n 0, 1) := by decide +kernel
theorem dX2_determinant_15 : decode cX2_determinant 15 = .ok (.iload_n 1, 1) := by decide +kernel
theorem dX2_determinant_16 : decode cX2_determinant 16 = .ok (.iconst 1, 1) := by decide +kernel
theorem dX2_determinant_17 : decode cX2_determinant 17 = .ok (.invokevirtual 39, 3) := by decide +kernel
theorem dX2_determinant_20 : decode cX2_determinant 20 = .ok (.aload_n 0, 1) := by decide +kernel
theorem dX2_determinant_21 : decode cX2_determinant 21 = .ok (.iload_n 1, 1) := by decide +kernel
theorem dX2_determinant_22 : decode cX2_determinant 22 = .ok (.iconst 2, 1) := by decide +kernel
theorem dX2_determinant_23 : decode cX2_determinant 23 = .ok (.invokevirtual 39, 3) := by decide +kernel
theorem dX2_determinant_26 : decode cX2_determinant 26 = .ok (.imul, 1) := by decide +kernel
theorem dX2_determinant_27 : decode cX2_determinant 27 = .ok (.isub, 1) := by decide +kernel
theorem dX2_determinant_28 : decode cX2_determinant 28 = .ok (.invokevirtual 21, 3) := by decide +kernel
theorem dX2_determinant_31 : decode cX2_determinant 31 = .ok (.ireturn, 1) := by decide +kernel
set_option maxRecDepth 20000 in
theorem ggX2_product_X2_digit : GoodIn wsX2_product wsX2_digit := goodIn_r _ [5, 6, 7, 8, 4, 9, 10, 11, 12, 13, 14, 15, 16, 17, 18, 23] (by decide +kernel) (by decide +kernel)
set_option maxRecDepth 20000 in
theorem gX2_product_X2_digit : GoodIn wsX2_product (wsV RX2 39 RX2 yX2_digit wsX2_digit) := goodIn_app (goodIn_of _ (by decide +kernel)) ggX2_product_X2_digit
set_option maxRecDepth 20000 in
theorem ggX2_product_X2_rest : GoodIn wsX2_product wsX2_rest := goodIn_r _ [14, 10, 15, 16, 17, 18, 23] (by decide +kernel) (by decide +kernel)
set_option maxRecDepth 20000 in
theorem gX2_product_X2_rest : GoodIn wsX2_product (wsV RX2 21 RX2 yX2_rest wsX2_rest) := goodIn_app (goodIn_of _ (by decide +kernel)) ggX2_product_X2_rest
set_option maxRecDepth 20000 in
theorem ggX2_product_X2_table : GoodIn wsX2_product wsX2_table := goodIn_r _ [22, 10, 23] (by decide +kernel) (by decide +kernel)
set_option maxRecDepth 20000 in
theorem gX2_product_X2_table : GoodIn wsX2_product (wsV RX2 42 RX2 yX2_table wsX2_table) := goodIn_app (goodIn_of _ (by decide +kernel)) ggX2_product_X2_table
theorem dX2_product_0 : decode cX2_product 0 = .ok (.aload_n 0, 1) := by decide +kernel
theorem dX2_product_1 : decode cX2_product 1 = .ok (.iload_n 1, 1) := by decide +kernel
theorem dX2_product_2 : decode cX2_product 2 = .ok (.iconst 0, 1) := by decide +kernel
theorem dX2_product_3 : decode cX2_product 3 = .ok (.invokevirtual 39, 3) := by decide +kernel
theorem dX2_product_6 : decode cX2_product 6 = .ok (.istore_n 3, 1) := by decide +kernel
theorem dX2_product_7 : decode cX2_product 7 = .ok (.aload_n 0, 1) := by decide +kernel
theorem dX2_product_8 : decode cX2_product 8 = .ok (.iload_n 1, 1) := by decide +kernel
theorem dX2_product_9 : decode cX2_product 9 = .ok (.iconst 1, 1) := by decide +kernel
theorem dX2_product_10 : decode cX2_product 10 = .ok (.invokevirtual 39, 3) := by decide +kernel
theorem dX2_product_13 : decode cX2_product 13 = .ok (.istore 4, 2) := by decide +kernel
theorem dX2_product_15 : decode cX2_product 15 = .ok (.aload_n 0, 1) := by decide +kernel
theorem dX2_product_16 : decode cX2_product 16 = .ok (.iload_n 1, 1) := by decide +kernel
theorem dX2_product_17 : decode cX2_product 17 = .ok (.iconst 2, 1) := by decide +kernel
theorem dX2_product_18 : decode cX2_product 18 = .ok (.invokevirtual 39, 3) := by decide +kernel
theorem dX2_product_21 : decode cX2_product 21 = .ok (.istore 5, 2) := by decide +kernel
theorem dX2_product_23 : decode cX2_product 23 = .ok (.aload_n 0, 1) := by decide +kernel
theorem dX2_product_24 : decode cX2_product 24 = .ok (.iload_n 1, 1) := by decide +kernel
theorem dX2_product_25 : decode cX2_product 25 = .ok (.iconst 3, 1) := by decide +kernel
theorem dX2_product_26 : decode cX2_product 26 = .ok (.invokevirtual 39, 3) := by decide +kernel
theorem dX2_product_29 : decode cX2_product 29 = .ok (.istore 6, 2) := by decide +kernel
theorem dX2_product_31 : decode cX2_product 31 = .ok (.aload_n 0, 1) := by decide +kernel
theorem dX2_product_32 : decode cX2_product 32 = .ok (.iload_n 2, 1) := by decide +kernel
theorem dX2_product_33 : decode cX2_product 33 = .ok (.iconst 0, 1) := by decide +kernel
theorem dX2_product_34 : decode cX2_product 34 = .ok (.invokevirtual 39, 3) := by decide +kernel
theorem dX2_product_37 : decode cX2_product 37 = .ok (.istore 7, 2) := by decide +kernel
theorem dX2_product_39 : decode cX2_product 39 = .ok (.aload_n 0, 1) := by decide +kernel
theorem dX2_product_40 : decode cX2_product 40 = .ok (.iload_n 2, 1) := by decide +kernel
theorem dX2_product_41 : decode cX2_product 41 = .ok (.iconst 1, 1) := by decide +kernel
theorem dX2_product_42 : decode cX2_product 42 = .ok (.invokevirtual 39, 3) := by decide +kernel
theorem dX2_product_45 : decode cX2_product 45 = .ok (.istore 8, 2) := by decide +kernel
theorem dX2_product_47 : decode cX2_product 47 = .ok (.aload_n 0, 1) := by decide +kernel
theorem dX2_product_48 : decode cX2_product 48 = .ok (.iload_n 2, 1) := by decide +kernel
theorem dX2_product_49 : decode cX2_product 49 = .ok (.iconst 2, 1) := by decide +kernel
theorem dX2_product_50 : decode cX2_product 50 = .ok (.invokevirtual 39, 3) := by decide +kernel
theorem dX2_product_53 : decode cX2_product 53 = .ok (.istore 9, 2) := by decide +kernel
theorem dX2_product_55 : decode cX2_product 55 = .ok (.aload_n 0, 1) := by decide +kernel
theorem dX2_product_56 : decode cX2_product 56 = .ok (.iload_n 2, 1) := by decide +kernel
theorem dX2_product_57 : decode cX2_product 57 = .ok (.iconst 3, 1) := by decide +kernel
theorem dX2_product_58 : decode cX2_product 58 = .ok (.invokevirtual 39, 3) := by decide +kernel
theorem dX2_product_61 : decode cX2_product 61 = .ok (.istore 10, 2) := by decide +kernel
theorem dX2_product_63 : decode cX2_product 63 = .ok (.aload_n 0, 1) := by decide +kernel
theorem dX2_product_64 : decode cX2_product 64 = .ok (.aload_n 0, 1) := by decide +kernel
theorem dX2_product_65 : decode cX2_product 65 = .ok (.iload_n 3, 1) := by decide +kernel
theorem dX2_product_66 : decode cX2_product 66 = .ok (.iload 7, 2) := by decide +kernel
theorem dX2_product_68 : decode cX2_product 68 = .ok (.imul, 1) := by decide +kernel
theorem dX2_product_69 : decode cX2_product 69 = .ok (.iload 4, 2) := by decide +kernel
theorem dX2_product_71 : decode cX2_product 71 = .ok (.iload 9, 2) := by decide +kernel
theorem dX2_product_73 : decode cX2_product 73 = .ok (.imul, 1) := by decide +kernel
theorem dX2_product_74 : decode cX2_product 74 = .ok (.iadd, 1) := by decide +kernel
theorem dX2_product_75 : decode cX2_product 75 = .ok (.invokevirtual 21, 3) := by decide +kernel
theorem dX2_product_78 : decode cX2_product 78 = .ok (.aload_n 0, 1) := by decide +kernel
theorem dX2_product_79 : decode cX2_product 79 = .ok (.iload_n 3, 1) := by decide +kernel
theorem dX2_product_80 : decode cX2_product 80 = .ok (.iload 8, 2) := by decide +kernel
theorem dX2_product_82 : decode cX2_product 82 = .ok (.imul, 1) := by decide +kernel
theorem dX2_product_83 : decode cX2_product 83 = .ok (.iload 4, 2) := by decide +kernel
theorem dX2_product_85 : decode cX2_product 85 = .ok (.iload 10, 2) := by decide +kernel
theorem dX2_product_87 : decode cX2_product 87 = .ok (.imul, 1) := by decide +kernel
theorem dX2_product_88 : decode cX2_product 88 = .ok (.iadd, 1) := by decide +kernel
theorem dX2_product_89 : decode cX2_product 89 = .ok (.invokevirtual 21, 3) := by decide +kernel
theorem dX2_product_92 : decode cX2_product 92 = .ok (.aload_n 0, 1) := by decide +kernel
theorem dX2_product_93 : decode cX2_product 93 = .ok (.iload 5, 2) := by decide +kernel
theorem dX2_product_95 : decode cX2_product 95 = .ok (.iload 7, 2) := by decide +kernel
theorem dX2_product_97 : decode cX2_product 97 = .ok (.imul, 1) := by decide +kernel
theorem dX2_product_98 : decode cX2_product 98 = .ok (.iload 6, 2) := by decide +kernel
theorem dX2_product_100 : decode cX2_product 100 = .ok (.iload 9, 2) := by decide +kernel
theorem dX2_product_102 : decode cX2_product 102 = .ok (.imul, 1) := by decide +kernel
theorem dX2_product_103 : decode cX2_product 103 = .ok (.iadd, 1) := by decide +kernel
theorem dX2_product_104 : decode cX2_product 104 = .ok (.invokevirtual 21, 3) := by decide +kernel
theorem dX2_product_107 : decode cX2_product 107 = .ok (.aload_n 0, 1) := by decide +kernel
theorem dX2_product_108 : decode cX2_product 108 = .ok (.iload 5, 2) := by decide +kernel
theorem dX2_product_110 : decode cX2_product 110 = .ok (.iload 8, 2) := by decide +kernel
theorem dX2_product_112 : decode cX2_product 112 = .ok (.imul, 1) := by decide +kernel
theorem dX2_product_113 : decode cX2_product 113 = .ok (.iload 6, 2) := by decide +kernel
theorem dX2_product_115 : decode cX2_product 115 = .ok (.iload 10, 2) := by decide +kernel
theorem dX2_product_117 : decode cX2_product 117 = .ok (.imul, 1) := by decide +kernel
theorem dX2_product_118 : decode cX2_product 118 = .ok (.iadd, 1) := by decide +kernel
theorem dX2_product_119 : decode cX2_product 119 = .ok (.invokevirtual 21, 3) := by decide +kernel
theorem dX2_product_122 : decode cX2_product 122 = .ok (.invokevirtual 42, 3) := by decide +kernel
theorem dX2_product_125 : decode cX2_product 125 = .ok (.ireturn, 1) := by decide +kernel
theorem dX2_table_0 : decode cX2_table 0 = .ok (.iload_n 1, 1) := by decide +kernel
theorem dX2_table_1 : decode cX2_table 1 = .ok (.aload_n 0, 1) := by decide +kernel
theorem dX2_table_2 : decode cX2_table 2 = .ok (.getfield 9, 3) := by decide +kernel
theorem dX2_table_5 : decode cX2_table 5 = .ok (.iload_n 2, 1) := by decide +kernel
theorem dX2_table_6 : decode cX2_table 6 = .ok (.aload_n 0, 1) := by decide +kernel
theorem dX2_table_7 : decode cX2_table 7 = .ok (.getfield 9, 3) := by decide +kernel
theorem dX2_table_10 : decode cX2_table 10 = .ok (.iload_n 3, 1) := by decide +kernel
theorem dX2_table_11 : decode cX2_table 11 = .ok (.aload_n 0, 1) := by decide +kernel
theorem dX2_table_12 : decode cX2_table 12 = .ok (.getfield 9, 3) := by decide +kernel
theorem dX2_table_15 : decode cX2_table 15 = .ok (.iload 4, 2) := by decide +kernel
theorem dX2_table_17 : decode cX2_table 17 = .ok (.imul, 1) := by decide +kernel
theorem dX2_table_18 : decode cX2_table 18 = .ok (.iadd, 1) := by decide +kernel
theorem dX2_table_19 : decode cX2_table 19 = .ok (.imul, 1) := by decide +kernel
theorem dX2_table_20 : decode cX2_table 20 = .ok (.iadd, 1) := by decide +kernel
theorem dX2_table_21 : decode cX2_table 21 = .ok (.imul, 1) := by decide +kernel
theorem dX2_table_22 : decode cX2_table 22 = .ok (.iadd, 1) := by decide +kernel
theorem dX2_table_23 : decode cX2_table 23 = .ok (.ireturn, 1) := by decide +kernel
theorem dX3_init_0 : decode cX3_init 0 = .ok (.aload_n 0, 1) := by decide +kernel
theorem dX3_init_1 : decode cX3_init 1 = .ok (.invokespecial 3, 3) := by decide +kernel
theorem dX3_init_4 : decode cX3_init 4 = .ok (.aload_n 0, 1) := by decide +kernel
theorem dX3_init_5 : decode cX3_init 5 = .ok (.sipush 3900, 3) := by decide +kernel
theorem dX3_init_8 : decode cX3_init 8 = .ok (.newarray .int, 2) := by decide +kernel
theorem dX3_init_10 : decode cX3_init 10 = .ok (.putfield 11, 3) := by decide +kernel
theorem dX3_init_13 : decode cX3_init 13 = .ok (.return_, 1) := by decide +kernel
set_option maxRecDepth 20000 in
theorem ggX3_become_X0_fill : GoodIn wsX3_become wsX0_fill := goodIn_r _ [6, 7, 8, 9, 10, 11, 12, 13, 14, 15, 16, 17, 18, 19, 20, 21, 22, 23, 24, 25, 26, 27, 28, 29, 30, 31, 32, 33, 5, 34, 35, 36, 37, 38, 39, 40, 41, 61, 62, 63, 64] (by decide +kernel) (by decide +kernel)
set_option maxRecDepth 20000 in
theorem gX3_become_X0_fill : GoodIn wsX3_become (wsV RX3 19 RX0 yX0_fill wsX0_fill) := goodIn_app (goodIn_of _ (by decide +kernel)) ggX3_become_X0_fill
set_option maxRecDepth 20000 in
theorem ggX3_become_X3_fillImages : GoodIn wsX3_become wsX3_fillImages := goodIn_r _ [46, 47, 48, 39, 29, 40, 28, 30, 49, 16, 17, 13, 18, 19, 50, 51, 52, 5, 53, 9, 7, 54, 35, 36, 37, 38, 8, 55, 56, 57, 58, 59, 60, 64, 61, 62, 63] (by decide +kernel) (by decide +kernel)
set_option maxRecDepth 20000 in
theorem gX3_become_X3_fillImages : GoodIn wsX3_become (wsV RX3 25 RX3 yX3_fillImages wsX3_fillImages) := goodIn_app (goodIn_of _ (by decide +kernel)) ggX3_become_X3_fillImages
theorem dX3_become_0 : decode cX3_become 0 = .ok (.aload_n 0, 1) := by decide +kernel
theorem dX3_become_1 : decode cX3_become 1 = .ok (.iload_n 1, 1) := by decide +kernel
theorem dX3_become_2 : decode cX3_become 2 = .ok (.putfield 15, 3) := by decide +kernel
theorem dX3_become_5 : decode cX3_become 5 = .ok (.iconst 1, 1) := by decide +kernel
theorem dX3_become_6 : decode cX3_become 6 = .ok (.istore 4, 2) := by decide +kernel
theorem dX3_become_8 : decode cX3_become 8 = .ok (.iload 4, 2) := by decide +kernel
theorem dX3_become_10 : decode cX3_become 10 = .ok (.iconst 4, 1) := by decide +kernel
theorem dX3_become_11 : decode cX3_become 11 = .ok (.if_icmp .gt 27, 3) := by decide +kernel
theorem dX3_become_14 : decode cX3_become 14 = .ok (.aload_n 3, 1) := by decide +kernel
theorem dX3_become_15 : decode cX3_become 15 = .ok (.aload_n 0, 1) := by decide +kernel
theorem dX3_become_16 : decode cX3_become 16 = .ok (.getfield 15, 3) := by decide +kernel
theorem dX3_become_19 : decode cX3_become 19 = .ok (.iload 4, 2) := by decide +kernel
theorem dX3_become_21 : decode cX3_become 21 = .ok (.invokevirtual 19, 3) := by decide +kernel
theorem dX3_become_24 : decode cX3_become 24 = .ok (.aload_n 0, 1) := by decide +kernel
theorem dX3_become_25 : decode cX3_become 25 = .ok (.iload 4, 2) := by decide +kernel
theorem dX3_become_27 : decode cX3_become 27 = .ok (.aload_n 2, 1) := by decide +kernel
theorem dX3_become_28 : decode cX3_become 28 = .ok (.aload_n 3, 1) := by decide +kernel
theorem dX3_become_29 : decode cX3_become 29 = .ok (.invokevirtual 25, 3) := by decide +kernel
theorem dX3_become_32 : decode cX3_become 32 = .ok (.iinc 4 1, 3) := by decide +kernel
theorem dX3_become_35 : decode cX3_become 35 = .ok (.goto (-27), 3) := by decide +kernel
theorem dX3_become_38 : decode cX3_become 38 = .ok (.return_, 1) := by decide +kernel
set_option maxRecDepth 20000 in
theorem ggX3_fillImages_X6_read : GoodIn wsX3_fillImages wsX6_read := goodIn_r _ [5] (by decide +kernel) (by decide +kernel)
set_option maxRecDepth 20000 in
theorem gX3_fillImages_X6_read_n32 : GoodIn wsX3_fillImages (wsX6_read) := ggX3_fillImages_X6_read
set_option maxRecDepth 20000 in
theorem ggX3_fillImages_X6_write : GoodIn wsX3_fillImages wsX6_write := goodIn_r _ [7] (by decide +kernel) (by decide +kernel)
set_option maxRecDepth 20000 in
theorem gX3_fillImages_X6_write_n36 : GoodIn wsX3_fillImages (wsX6_write) := ggX3_fillImages_X6_write
set_option maxRecDepth 20000 in
theorem ggX3_fillImages_X2_howMany : GoodIn wsX3_fillImages wsX2_howMany := goodIn_r _ [12, 13, 33] (by decide +kernel) (by decide +kernel)
set_option maxRecDepth 20000 in
theorem gX3_fillImages_X2_howMany : GoodIn wsX3_fillImages (wsV RX3 40 RX2 yX2_howMany wsX2_howMany) := goodIn_app (goodIn_of _ (by decide +kernel)) ggX3_fillImages_X2_howMany
set_option maxRecDepth 20000 in
theorem ggX3_fillImages_X0_code : GoodIn wsX3_fillImages wsX0_code := goodIn_r _ [18, 19, 20, 21, 22, 23, 24, 17, 25, 26, 3, 4, 5, 34, 35, 36, 33] (by decide +kernel) (by decide +kernel)
set_option maxRecDepth 20000 in
theorem gX3_fillImages_X0_code : GoodIn wsX3_fillImages (wsV RX3 46 RX0 yX0_code wsX0_code) := goodIn_app (goodIn_of _ (by decide +kernel)) ggX3_fillImages_X0_code
set_option maxRecDepth 20000 in
theorem ggX3_fillImages_X2_total : GoodIn wsX3_fillImages wsX2_total := goodIn_r _ [30, 13, 33] (by decide +kernel) (by decide +kernel)
set_option maxRecDepth 20000 in
theorem gX3_fillImages_X2_total : GoodIn wsX3_fillImages (wsV RX3 49 RX2 yX2_total wsX2_total) := goodIn_app (goodIn_of _ (by decide +kernel)) ggX3_fillImages_X2_total
theorem dX3_fillImages_0 : decode cX3_fillImages 0 = .ok (.getstatic 29, 3) := by decide +kernel
theorem dX3_fillImages_3 : decode cX3_fillImages 3 = .ok (.iload_n 1, 1) := by decide +kernel
theorem dX3_fillImages_4 : decode cX3_fillImages 4 = .ok (.invokestatic 32, 3) := by decide +kernel
theorem dX3_fillImages_7 : decode cX3_fillImages 7 = .ok (.istore 4, 2) := by decide +kernel
theorem dX3_fillImages_9 : decode cX3_fillImages 9 = .ok (.aload_n 0, 1) := by decide +kernel
theorem dX3_fillImages_10 : decode cX3_fillImages 10 = .ok (.getfield 11, 3) := by decide +kernel
theorem dX3_fillImages_13 : decode cX3_fillImages 13 = .ok (.iload 4, 2) := by decide +kernel
theorem dX3_fillImages_15 : decode cX3_fillImages 15 = .ok (.iconst 0, 1) := by decide +kernel
theorem dX3_fillImages_16 : decode cX3_fillImages 16 = .ok (.invokestatic 36, 3) := by decide +kernel
theorem dX3_fillImages_19 : decode cX3_fillImages 19 = .ok (.iconst 0, 1) := by decide +kernel
theorem dX3_fillImages_20 : decode cX3_fillImages 20 = .ok (.istore 5, 2) := by decide +kernel
theorem dX3_fillImages_22 : decode cX3_fillImages 22 = .ok (.iload 5, 2) := by decide +kernel
theorem dX3_fillImages_24 : decode cX3_fillImages 24 = .ok (.iload_n 1, 1) := by decide +kernel
theorem dX3_fillImages_25 : decode cX3_fillImages 25 = .ok (.if_icmp .gt 85, 3) := by decide +kernel
theorem dX3_fillImages_28 : decode cX3_fillImages 28 = .ok (.aload_n 2, 1) := by decide +kernel
theorem dX3_fillImages_29 : decode cX3_fillImages 29 = .ok (.iload 5, 2) := by decide +kernel
theorem dX3_fillImages_31 : decode cX3_fillImages 31 = .ok (.invokevirtual 40, 3) := by decide +kernel
theorem dX3_fillImages_34 : decode cX3_fillImages 34 = .ok (.istore 6, 2) := by decide +kernel
theorem dX3_fillImages_36 : decode cX3_fillImages 36 = .ok (.aload_n 2, 1) := by decide +kernel
theorem dX3_fillImages_37 : decode cX3_fillImages 37 = .ok (.iload 5, 2) := by decide +kernel
theorem dX3_fillImages_39 : decode cX3_fillImages 39 = .ok (.iconst 1, 1) := by decide +kernel
theorem dX3_fillImages_40 : decode cX3_fillImages 40 = .ok (.iadd, 1) := by decide +kernel
theorem dX3_fillImages_41 : decode cX3_fillImages 41 = .ok (.invokevirtual 40, 3) := by decide +kernel
theorem dX3_fillImages_44 : decode cX3_fillImages 44 = .ok (.istore 7, 2) := by decide +kernel
theorem dX3_fillImages_46 : decode cX3_fillImages 46 = .ok (.aload_n 3, 1) := by decide +kernel
theorem dX3_fillImages_47 : decode cX3_fillImages 47 = .ok (.iload 5, 2) := by decide +kernel
theorem dX3_fillImages_49 : decode cX3_fillImages 49 = .ok (.invokevirtual 46, 3) := by decide +kernel
theorem dX3_fillImages_52 : decode cX3_fillImages 52 = .ok (.istore 8, 2) := by decide +kernel
theorem dX3_fillImages_54 : decode cX3_fillImages 54 = .ok (.iload 6, 2) := by decide +kernel
theorem dX3_fillImages_56 : decode cX3_fillImages 56 = .ok (.istore 9, 2) := by decide +kernel
theorem dX3_fillImages_58 : decode cX3_fillImages 58 = .ok (.iload 9, 2) := by decide +kernel
theorem dX3_fillImages_60 : decode cX3_fillImages 60 = .ok (.iload 7, 2) := by decide +kernel
theorem dX3_fillImages_62 : decode cX3_fillImages 62 = .ok (.if_icmp .ge 42, 3) := by decide +kernel
theorem dX3_fillImages_65 : decode cX3_fillImages 65 = .ok (.aload_n 0, 1) := by decide +kernel
theorem dX3_fillImages_66 : decode cX3_fillImages 66 = .ok (.getfield 11, 3) := by decide +kernel
theorem dX3_fillImages_69 : decode cX3_fillImages 69 = .ok (.iload 4, 2) := by decide +kernel
theorem dX3_fillImages_71 : decode cX3_fillImages 71 = .ok (.iload 9, 2) := by decide +kernel
theorem dX3_fillImages_73 : decode cX3_fillImages 73 = .ok (.iadd, 1) := by decide +kernel
theorem dX3_fillImages_74 : decode cX3_fillImages 74 = .ok (.aload_n 2, 1) := by decide +kernel
theorem dX3_fillImages_75 : decode cX3_fillImages 75 = .ok (.aload_n 0, 1) := by decide +kernel
theorem dX3_fillImages_76 : decode cX3_fillImages 76 = .ok (.getfield 11, 3) := by decide +kernel
theorem dX3_fillImages_79 : decode cX3_fillImages 79 = .ok (.iload 4, 2) := by decide +kernel
theorem dX3_fillImages_81 : decode cX3_fillImages 81 = .ok (.iload 9, 2) := by decide +kernel
theorem dX3_fillImages_83 : decode cX3_fillImages 83 = .ok (.iadd, 1) := by decide +kernel
theorem dX3_fillImages_84 : decode cX3_fillImages 84 = .ok (.iload 6, 2) := by decide +kernel
theorem dX3_fillImages_86 : decode cX3_fillImages 86 = .ok (.isub, 1) := by decide +kernel
theorem dX3_fillImages_87 : decode cX3_fillImages 87 = .ok (.invokestatic 32, 3) := by decide +kernel
theorem dX3_fillImages_90 : decode cX3_fillImages 90 = .ok (.iload 8, 2) := by decide +kernel
theorem dX3_fillImages_92 : decode cX3_fillImages 92 = .ok (.invokevirtual 49, 3) := by decide +kernel
theorem dX3_fillImages_95 : decode cX3_fillImages 95 = .ok (.invokestatic 36, 3) := by decide +kernel
theorem dX3_fillImages_98 : decode cX3_fillImages 98 = .ok (.iinc 9 1, 3) := by decide +kernel
theorem dX3_fillImages_101 : decode cX3_fillImages 101 = .ok (.goto (-43), 3) := by decide +kernel
theorem dX3_fillImages_104 : decode cX3_fillImages 104 = .ok (.iinc 5 1, 3) := by decide +kernel
theorem dX3_fillImages_107 : decode cX3_fillImages 107 = .ok (.goto (-85), 3) := by decide +kernel
theorem dX3_fillImages_110 : decode cX3_fillImages 110 = .ok (.return_, 1) := by decide +kernel
set_option maxRecDepth 20000 in
theorem ggX3_image_X6_read : GoodIn wsX3_image wsX6_read := goodIn_r _ [5] (by decide +kernel) (by decide +kernel)
set_option maxRecDepth 20000 in
theorem gX3_image_X6_read_n32 : GoodIn wsX3_image (wsX6_read) := ggX3_image_X6_read
theorem dX3_image_0 : decode cX3_image 0 = .ok (.aload_n 0, 1) := by decide +kernel
theorem dX3_image_1 : decode cX3_image 1 = .ok (.getfield 11, 3) := by decide +kernel
theorem dX3_image_4 : decode cX3_image 4 = .ok (.getstatic 29, 3) := by decide +kernel
theorem dX3_image_7 : decode cX3_image 7 = .ok (.iload_n 1, 1) := by decide +kernel
theorem dX3_image_8 : decode cX3_image 8 = .ok (.invokestatic 32, 3) := by decide +kernel
theorem dX3_image_11 : decode cX3_image 11 = .ok (.iload_n 2, 1) := by decide +kernel
theorem dX3_image_12 : decode cX3_image 12 = .ok (.iadd, 1) := by decide +kernel
theorem dX3_image_13 : decode cX3_image 13 = .ok (.invokestatic 32, 3) := by decide +kernel
theorem dX3_image_16 : decode cX3_image 16 = .ok (.ireturn, 1) := by decide +kernel
set_option maxRecDepth 20000 in
theorem ggX4_init_X4_close : GoodIn wsX4_init wsX4_close := goodIn_r _ [14, 8, 15, 9, 16, 17, 18, 19, 20, 21, 22, 23, 24, 25, 26, 27, 28, 29, 13, 30, 7, 31, 32, 33, 34, 35, 36, 37, 38, 39, 40, 41, 42, 43, 44, 45, 46, 47, 48, 5, 49, 50, 51, 52, 53, 54, 55, 56, 57, 58, 59, 60, 61, 62, 63, 64, 65, 66, 67, 68, 69, 70, 71, 72, 73, 74, 75, 76, 77, 78] (by decide +kernel) (by decide +kernel)
set_option maxRecDepth 20000 in
theorem gX4_init_X4_close : GoodIn wsX4_init (wsV RX4 28 RX4 yX4_close wsX4_close) := goodIn_app (goodIn_of _ (by decide +kernel)) ggX4_init_X4_close
theorem dX4_init_0 : decode cX4_init 0 = .ok (.aload_n 0, 1) := by decide +kernel
theorem dX4_init_1 : decode cX4_init 1 = .ok (.invokespecial 3, 3) := by decide +kernel
theorem dX4_init_4 : decode cX4_init 4 = .ok (.aload_n 0, 1) := by decide +kernel
theorem dX4_init_5 : decode cX4_init 5 = .ok (.iconst 4, 1) := by decide +kernel
theorem dX4_init_6 : decode cX4_init 6 = .ok (.anewarray 9, 3) := by decide +kernel
theorem dX4_init_9 : decode cX4_init 9 = .ok (.putfield 11, 3) := by decide +kernel
theorem dX4_init_12 : decode cX4_init 12 = .ok (.aload_n 0, 1) := by decide +kernel
theorem dX4_init_13 : decode cX4_init 13 = .ok (.sipush 480, 3) := by decide +kernel
theorem dX4_init_16 : decode cX4_init 16 = .ok (.newarray .int, 2) := by decide +kernel
theorem dX4_init_18 : decode cX4_init 18 = .ok (.putfield 17, 3) := by decide +kernel
theorem dX4_init_21 : decode cX4_init 21 = .ok (.aload_n 0, 1) := by decide +kernel
theorem dX4_init_22 : decode cX4_init 22 = .ok (.sipush 625, 3) := by decide +kernel
theorem dX4_init_25 : decode cX4_init 25 = .ok (.newarray .int, 2) := by decide +kernel
theorem dX4_init_27 : decode cX4_init 27 = .ok (.putfield 21, 3) := by decide +kernel
theorem dX4_init_30 : decode cX4_init 30 = .ok (.aload_n 0, 1) := by decide +kernel
theorem dX4_init_31 : decode cX4_init 31 = .ok (.aload_n 1, 1) := by decide +kernel
theorem dX4_init_32 : decode cX4_init 32 = .ok (.putfield 24, 3) := by decide +kernel
theorem dX4_init_35 : decode cX4_init 35 = .ok (.aload_n 0, 1) := by decide +kernel
theorem dX4_init_36 : decode cX4_init 36 = .ok (.invokevirtual 28, 3) := by decide +kernel
theorem dX4_init_39 : decode cX4_init 39 = .ok (.return_, 1) := by decide +kernel
set_option maxRecDepth 20000 in
theorem ggX4_forget_X4_close : GoodIn wsX4_forget wsX4_close := goodIn_r _ [6, 7, 8, 9, 1, 10, 11, 12, 13, 14, 15, 16, 17, 18, 19, 20, 21, 22, 5, 23, 24, 25, 26, 27, 28, 29, 30, 31, 32, 33, 34, 35, 36, 37, 38, 39, 40, 41, 42, 43, 44, 45, 46, 47, 48, 49, 50, 51, 52, 53, 54, 55, 56, 57, 58, 59, 60, 61, 62, 63, 64, 65, 66, 67, 68, 69, 70, 71, 72, 73] (by decide +kernel) (by decide +kernel)
set_option maxRecDepth 20000 in
theorem gX4_forget_X4_close : GoodIn wsX4_forget (wsV RX4 28 RX4 yX4_close wsX4_close) := goodIn_app (goodIn_of _ (by decide +kernel)) ggX4_forget_X4_close
theorem dX4_forget_0 : decode cX4_forget 0 = .ok (.aload_n 0, 1) := by decide +kernel
theorem dX4_forget_1 : decode cX4_forget 1 = .ok (.iconst 0, 1) := by decide +kernel
theorem dX4_forget_2 : decode cX4_forget 2 = .ok (.putfield 31, 3) := by decide +kernel
theorem dX4_forget_5 : decode cX4_forget 5 = .ok (.aload_n 0, 1) := by decide +kernel
theorem dX4_forget_6 : decode cX4_forget 6 = .ok (.invokevirtual 28, 3) := by decide +kernel
theorem dX4_forget_9 : decode cX4_forget 9 = .ok (.return_, 1) := by decide +kernel
set_option maxRecDepth 20000 in
theorem ggX4_tell_X3_init : GoodIn wsX4_tell wsX3_init := goodIn_r _ [8, 9, 10, 11, 12, 13, 119, 120] (by decide +kernel) (by decide +kernel)
set_option maxRecDepth 20000 in
theorem gX4_tell_X3_init_n35 : GoodIn wsX4_tell (wsX3_init) := ggX4_tell_X3_init
set_option maxRecDepth 20000 in
theorem ggX4_tell_X2_table : GoodIn wsX4_tell wsX2_table := goodIn_r _ [18, 19, 121] (by decide +kernel) (by decide +kernel)
set_option maxRecDepth 20000 in
theorem gX4_tell_X2_table : GoodIn wsX4_tell (wsV RX4 36 RX2 yX2_table wsX2_table) := goodIn_app (goodIn_of _ (by decide +kernel)) ggX4_tell_X2_table
set_option maxRecDepth 20000 in
theorem ggX4_tell_X3_become : GoodIn wsX4_tell wsX3_become := goodIn_r _ [23, 24, 25, 26, 27, 28, 29, 30, 31, 32, 33, 34, 35, 17, 36, 37, 38, 39, 40, 19, 41, 42, 43, 44, 45, 46, 47, 48, 49, 50, 51, 52, 53, 54, 55, 56, 57, 58, 59, 60, 61, 62, 63, 64, 65, 5, 66, 67, 13, 68, 69, 70, 71, 72, 73, 74, 75, 76, 77, 119, 120, 122, 123, 124, 121] (by decide +kernel) (by decide +kernel)
set_option maxRecDepth 20000 in
theorem gX4_tell_X3_become : GoodIn wsX4_tell (wsV RX4 42 RX3 yX3_become wsX3_become) := goodIn_app (goodIn_of _ (by decide +kernel)) ggX4_tell_X3_become
set_option maxRecDepth 20000 in
theorem ggX4_tell_X4_close : GoodIn wsX4_tell wsX4_close := goodIn_r _ [82, 83, 84, 6, 1, 85, 86, 87, 88, 14, 15, 16, 17, 18, 19, 89, 90, 91, 81, 92, 93, 60, 50, 61, 49, 51, 94, 95, 96, 97, 98, 99, 100, 101, 102, 103, 104, 105, 106, 2, 107, 108, 109, 110, 111, 34, 35, 36, 37, 38, 39, 40, 41, 42, 43, 44, 45, 46, 47, 48, 112, 113, 114, 115, 116, 117, 118, 121, 119, 120] (by decide +kernel) (by decide +kernel)
set_option maxRecDepth 20000 in
theorem gX4_tell_X4_close : GoodIn wsX4_tell (wsV RX4 28 RX4 yX4_close wsX4_close) := goodIn_app (goodIn_of _ (by decide +kernel)) ggX4_tell_X4_close
theorem dX4_tell_0 : decode cX4_tell 0 = .ok (.aload_n 0, 1) := by decide +kernel
theorem dX4_tell_1 : decode cX4_tell 1 = .ok (.getfield 31, 3) := by decide +kernel
theorem dX4_tell_4 : decode cX4_tell 4 = .ok (.ifCond .lt 15, 3) := by decide +kernel
theorem dX4_tell_7 : decode cX4_tell 7 = .ok (.aload_n 0, 1) := by decide +kernel
theorem dX4_tell_8 : decode cX4_tell 8 = .ok (.getfield 31, 3) := by decide +kernel
theorem dX4_tell_11 : decode cX4_tell 11 = .ok (.aload_n 0, 1) := by decide +kernel
theorem dX4_tell_12 : decode cX4_tell 12 = .ok (.getfield 11, 3) := by decide +kernel
theorem dX4_tell_15 : decode cX4_tell 15 = .ok (.arraylength, 1) := by decide +kernel
theorem dX4_tell_16 : decode cX4_tell 16 = .ok (.if_icmp .lt 4, 3) := by decide +kernel
theorem dX4_tell_19 : decode cX4_tell 19 = .ok (.return_, 1) := by decide +kernel
theorem dX4_tell_20 : decode cX4_tell 20 = .ok (.aload_n 0, 1) := by decide +kernel
theorem dX4_tell_21 : decode cX4_tell 21 = .ok (.getfield 11, 3) := by decide +kernel
theorem dX4_tell_24 : decode cX4_tell 24 = .ok (.aload_n 0, 1) := by decide +kernel
theorem dX4_tell_25 : decode cX4_tell 25 = .ok (.getfield 31, 3) := by decide +kernel
theorem dX4_tell_28 : decode cX4_tell 28 = .ok (.aaload, 1) := by decide +kernel
theorem dX4_tell_29 : decode cX4_tell 29 = .ok (.astore 6, 2) := by decide +kernel
theorem dX4_tell_31 : decode cX4_tell 31 = .ok (.aload 6, 2) := by decide +kernel
theorem dX4_tell_33 : decode cX4_tell 33 = .ok (.ifnonnull 23, 3) := by decide +kernel
theorem dX4_tell_36 : decode cX4_tell 36 = .ok (.new 9, 3) := by decide +kernel
theorem dX4_tell_39 : decode cX4_tell 39 = .ok (.dup, 1) := by decide +kernel
theorem dX4_tell_40 : decode cX4_tell 40 = .ok (.invokespecial 35, 3) := by decide +kernel
theorem dX4_tell_43 : decode cX4_tell 43 = .ok (.astore 6, 2) := by decide +kernel
theorem dX4_tell_45 : decode cX4_tell 45 = .ok (.aload_n 0, 1) := by decide +kernel
theorem dX4_tell_46 : decode cX4_tell 46 = .ok (.getfield 11, 3) := by decide +kernel
theorem dX4_tell_49 : decode cX4_tell 49 = .ok (.aload_n 0, 1) := by decide +kernel
theorem dX4_tell_50 : decode cX4_tell 50 = .ok (.getfield 31, 3) := by decide +kernel
theorem dX4_tell_53 : decode cX4_tell 53 = .ok (.aload 6, 2) := by decide +kernel
theorem dX4_tell_55 : decode cX4_tell 55 = .ok (.aastore, 1) := by decide +kernel
theorem dX4_tell_56 : decode cX4_tell 56 = .ok (.aload 6, 2) := by decide +kernel
theorem dX4_tell_58 : decode cX4_tell 58 = .ok (.aload_n 0, 1) := by decide +kernel
theorem dX4_tell_59 : decode cX4_tell 59 = .ok (.getfield 24, 3) := by decide +kernel
theorem dX4_tell_62 : decode cX4_tell 62 = .ok (.iload_n 1, 1) := by decide +kernel
theorem dX4_tell_63 : decode cX4_tell 63 = .ok (.iload_n 2, 1) := by decide +kernel
theorem dX4_tell_64 : decode cX4_tell 64 = .ok (.iload_n 3, 1) := by decide +kernel
theorem dX4_tell_65 : decode cX4_tell 65 = .ok (.iload 4, 2) := by decide +kernel
theorem dX4_tell_67 : decode cX4_tell 67 = .ok (.invokevirtual 36, 3) := by decide +kernel
theorem dX4_tell_70 : decode cX4_tell 70 = .ok (.aload_n 0, 1) := by decide +kernel
theorem dX4_tell_71 : decode cX4_tell 71 = .ok (.getfield 24, 3) := by decide +kernel
theorem dX4_tell_74 : decode cX4_tell 74 = .ok (.aload 5, 2) := by decide +kernel
theorem dX4_tell_76 : decode cX4_tell 76 = .ok (.invokevirtual 42, 3) := by decide +kernel
theorem dX4_tell_79 : decode cX4_tell 79 = .ok (.aload_n 0, 1) := by decide +kernel
theorem dX4_tell_80 : decode cX4_tell 80 = .ok (.dup, 1) := by decide +kernel
theorem dX4_tell_81 : decode cX4_tell 81 = .ok (.getfield 31, 3) := by decide +kernel
theorem dX4_tell_84 : decode cX4_tell 84 = .ok (.iconst 1, 1) := by decide +kernel
theorem dX4_tell_85 : decode cX4_tell 85 = .ok (.iadd, 1) := by decide +kernel
theorem dX4_tell_86 : decode cX4_tell 86 = .ok (.putfield 31, 3) := by decide +kernel
theorem dX4_tell_89 : decode cX4_tell 89 = .ok (.aload_n 0, 1) := by decide +kernel
theorem dX4_tell_90 : decode cX4_tell 90 = .ok (.invokevirtual 28, 3) := by decide +kernel
theorem dX4_tell_93 : decode cX4_tell 93 = .ok (.return_, 1) := by decide +kernel
theorem dX4_pick_0 : decode cX4_pick 0 = .ok (.iload_n 1, 1) := by decide +kernel
theorem dX4_pick_1 : decode cX4_pick 1 = .ok (.ifCond .lt 29, 3) := by decide +kernel
theorem dX4_pick_4 : decode cX4_pick 4 = .ok (.iload_n 1, 1) := by decide +kernel
theorem dX4_pick_5 : decode cX4_pick 5 = .ok (.aload_n 0, 1) := by decide +kernel
theorem dX4_pick_6 : decode cX4_pick 6 = .ok (.getfield 31, 3) := by decide +kernel
theorem dX4_pick_9 : decode cX4_pick 9 = .ok (.if_icmp .ge 21, 3) := by decide +kernel
theorem dX4_pick_12 : decode cX4_pick 12 = .ok (.iload_n 1, 1) := by decide +kernel
theorem dX4_pick_13 : decode cX4_pick 13 = .ok (.aload_n 0, 1) := by decide +kernel
theorem dX4_pick_14 : decode cX4_pick 14 = .ok (.getfield 11, 3) := by decide +kernel
theorem dX4_pick_17 : decode cX4_pick 17 = .ok (.arraylength, 1) := by decide +kernel
theorem dX4_pick_18 : decode cX4_pick 18 = .ok (.if_icmp .ge 12, 3) := by decide +kernel
theorem dX4_pick_21 : decode cX4_pick 21 = .ok (.aload_n 0, 1) := by decide +kernel
theorem dX4_pick_22 : decode cX4_pick 22 = .ok (.getfield 11, 3) := by decide +kernel
theorem dX4_pick_25 : decode cX4_pick 25 = .ok (.iload_n 1, 1) := by decide +kernel
theorem dX4_pick_26 : decode cX4_pick 26 = .ok (.aaload, 1) := by decide +kernel
theorem dX4_pick_27 : decode cX4_pick 27 = .ok (.goto 4, 3) := by decide +kernel
theorem dX4_pick_30 : decode cX4_pick 30 = .ok (.aconst_null, 1) := by decide +kernel
theorem dX4_pick_31 : decode cX4_pick 31 = .ok (.areturn, 1) := by decide +kernel
set_option maxRecDepth 20000 in
theorem ggX4_close_J7_fill_53178 : GoodIn wsX4_close wsJ7_fill_53178 := goodIn_r _ [8] (by decide +kernel) (by decide +kernel)
set_option maxRecDepth 20000 in
theorem gX4_close_J7_fill_53178 : GoodIn wsX4_close (va_wsS RX4 46 yJ7_fill_53178 wsJ7_fill_53178) := goodIn_app (goodIn_of _ (by decide +kernel)) ggX4_close_J7_fill_53178
set_option maxRecDepth 20000 in
theorem ggX4_close_X2_table : GoodIn wsX4_close wsX2_table := goodIn_r _ [13, 14, 67] (by decide +kernel) (by decide +kernel)
set_option maxRecDepth 20000 in
theorem gX4_close_X2_table : GoodIn wsX4_close (wsV RX4 36 RX2 yX2_table wsX2_table) := goodIn_app (goodIn_of _ (by decide +kernel)) ggX4_close_X2_table
set_option maxRecDepth 20000 in
theorem ggX4_close_X4_find : GoodIn wsX4_close wsX4_find := goodIn_r _ [19, 1, 2, 20, 21, 22, 23, 24, 25, 61, 62, 63, 64, 65, 66] (by decide +kernel) (by decide +kernel)
set_option maxRecDepth 20000 in
theorem gX4_close_X4_find : GoodIn wsX4_close (wsV RX4 55 RX4 yX4_find wsX4_find) := goodIn_app (goodIn_of _ (by decide +kernel)) ggX4_close_X4_find
set_option maxRecDepth 20000 in
theorem ggX4_close_X4_matrix : GoodIn wsX4_close wsX4_matrix := goodIn_r _ [29, 20, 21, 22, 23, 61, 62, 63, 64, 65, 66] (by decide +kernel) (by decide +kernel)
set_option maxRecDepth 20000 in
theorem gX4_close_X4_matrix : GoodIn wsX4_close (wsV RX4 59 RX4 yX4_matrix wsX4_matrix) := goodIn_app (goodIn_of _ (by decide +kernel)) ggX4_close_X4_matrix
set_option maxRecDepth 20000 in
theorem ggX4_close_X4_generatorMatrix : GoodIn wsX4_close wsX4_generatorMatrix := goodIn_r _ [33, 3, 34, 35, 36, 37, 18, 38, 4, 39, 9, 10, 11, 12, 13, 14, 61, 62, 63, 64, 65, 66, 68, 69, 67] (by decide +kernel) (by decide +kernel)
set_option maxRecDepth 20000 in
theorem gX4_close_X4_generatorMatrix : GoodIn wsX4_close (wsV RX4 63 RX4 yX4_generatorMatrix wsX4_generatorMatrix) := goodIn_app (goodIn_of _ (by decide +kernel)) ggX4_close_X4_generatorMatrix
set_option maxRecDepth 20000 in
theorem ggX4_close_X2_product : GoodIn wsX4_close wsX2_product := goodIn_r _ [43, 44, 45, 46, 12, 47, 48, 49, 50, 51, 14, 52, 53, 54, 55, 56, 57, 58, 59, 60, 10, 11, 13, 67] (by decide +kernel) (by decide +kernel)
set_option maxRecDepth 20000 in
theorem gX4_close_X2_product : GoodIn wsX4_close (wsV RX4 66 RX2 yX2_product wsX2_product) := goodIn_app (goodIn_of _ (by decide +kernel)) ggX4_close_X2_product
theorem dX4_close_0 : decode cX4_close 0 = .ok (.aload_n 0, 1) := by decide +kernel
theorem dX4_close_1 : decode cX4_close 1 = .ok (.getfield 21, 3) := by decide +kernel
theorem dX4_close_4 : decode cX4_close 4 = .ok (.iconst 0, 1) := by decide +kernel
theorem dX4_close_5 : decode cX4_close 5 = .ok (.invokestatic 46, 3) := by decide +kernel
theorem dX4_close_8 : decode cX4_close 8 = .ok (.aload_n 0, 1) := by decide +kernel
theorem dX4_close_9 : decode cX4_close 9 = .ok (.iconst 0, 1) := by decide +kernel
theorem dX4_close_10 : decode cX4_close 10 = .ok (.putfield 52, 3) := by decide +kernel
theorem dX4_close_13 : decode cX4_close 13 = .ok (.aload_n 0, 1) := by decide +kernel
theorem dX4_close_14 : decode cX4_close 14 = .ok (.aload_n 0, 1) := by decide +kernel
theorem dX4_close_15 : decode cX4_close 15 = .ok (.getfield 24, 3) := by decide +kernel
theorem dX4_close_18 : decode cX4_close 18 = .ok (.iconst 1, 1) := by decide +kernel
theorem dX4_close_19 : decode cX4_close 19 = .ok (.iconst 0, 1) := by decide +kernel
theorem dX4_close_20 : decode cX4_close 20 = .ok (.iconst 0, 1) := by decide +kernel
theorem dX4_close_21 : decode cX4_close 21 = .ok (.iconst 1, 1) := by decide +kernel
theorem dX4_close_22 : decode cX4_close 22 = .ok (.invokevirtual 36, 3) := by decide +kernel
theorem dX4_close_25 : decode cX4_close 25 = .ok (.invokevirtual 55, 3) := by decide +kernel
theorem dX4_close_28 : decode cX4_close 28 = .ok (.iconst 0, 1) := by decide +kernel
theorem dX4_close_29 : decode cX4_close 29 = .ok (.istore_n 1, 1) := by decide +kernel
theorem dX4_close_30 : decode cX4_close 30 = .ok (.iload_n 1, 1) := by decide +kernel
theorem dX4_close_31 : decode cX4_close 31 = .ok (.aload_n 0, 1) := by decide +kernel
theorem dX4_close_32 : decode cX4_close 32 = .ok (.getfield 52, 3) := by decide +kernel
theorem dX4_close_35 : decode cX4_close 35 = .ok (.if_icmp .ge 53, 3) := by decide +kernel
theorem dX4_close_38 : decode cX4_close 38 = .ok (.iload_n 1, 1) := by decide +kernel
theorem dX4_close_39 : decode cX4_close 39 = .ok (.sipush 480, 3) := by decide +kernel
theorem dX4_close_42 : decode cX4_close 42 = .ok (.if_icmp .ge 46, 3) := by decide +kernel
theorem dX4_close_45 : decode cX4_close 45 = .ok (.iconst 0, 1) := by decide +kernel
theorem dX4_close_46 : decode cX4_close 46 = .ok (.istore_n 2, 1) := by decide +kernel
theorem dX4_close_47 : decode cX4_close 47 = .ok (.iload_n 2, 1) := by decide +kernel
theorem dX4_close_48 : decode cX4_close 48 = .ok (.aload_n 0, 1) := by decide +kernel
theorem dX4_close_49 : decode cX4_close 49 = .ok (.getfield 31, 3) := by decide +kernel
theorem dX4_close_52 : decode cX4_close 52 = .ok (.if_icmp .ge 30, 3) := by decide +kernel
theorem dX4_close_55 : decode cX4_close 55 = .ok (.aload_n 0, 1) := by decide +kernel
theorem dX4_close_56 : decode cX4_close 56 = .ok (.aload_n 0, 1) := by decide +kernel
theorem dX4_close_57 : decode cX4_close 57 = .ok (.getfield 24, 3) := by decide +kernel
theorem dX4_close_60 : decode cX4_close 60 = .ok (.aload_n 0, 1) := by decide +kernel
theorem dX4_close_61 : decode cX4_close 61 = .ok (.iload_n 1, 1) := by decide +kernel
theorem dX4_close_62 : decode cX4_close 62 = .ok (.invokevirtual 59, 3) := by decide +kernel
theorem dX4_close_65 : decode cX4_close 65 = .ok (.aload_n 0, 1) := by decide +kernel
theorem dX4_close_66 : decode cX4_close 66 = .ok (.iload_n 2, 1) := by decide +kernel
theorem dX4_close_67 : decode cX4_close 67 = .ok (.invokevirtual 63, 3) := by decide +kernel
theorem dX4_close_70 : decode cX4_close 70 = .ok (.invokevirtual 66, 3) := by decide +kernel
theorem dX4_close_73 : decode cX4_close 73 = .ok (.invokevirtual 55, 3) := by decide +kernel
theorem dX4_close_76 : decode cX4_close 76 = .ok (.iinc 2 1, 3) := by decide +kernel
theorem dX4_close_79 : decode cX4_close 79 = .ok (.goto (-32), 3) := by decide +kernel
theorem dX4_close_82 : decode cX4_close 82 = .ok (.iinc 1 1, 3) := by decide +kernel
theorem dX4_close_85 : decode cX4_close 85 = .ok (.goto (-55), 3) := by decide +kernel
theorem dX4_close_88 : decode cX4_close 88 = .ok (.return_, 1) := by decide +kernel
set_option maxRecDepth 20000 in
theorem ggX4_find_X6_read : GoodIn wsX4_find wsX6_read := goodIn_r _ [6] (by decide +kernel) (by decide +kernel)
set_option maxRecDepth 20000 in
theorem gX4_find_X6_read_n70 : GoodIn wsX4_find (wsX6_read) := ggX4_find_X6_read
set_option maxRecDepth 20000 in
theorem ggX4_find_X6_write : GoodIn wsX4_find wsX6_write := goodIn_r _ [8] (by decide +kernel) (by decide +kernel)
set_option maxRecDepth 20000 in
theorem gX4_find_X6_write_n74 : GoodIn wsX4_find (wsX6_write) := ggX4_find_X6_write
theorem dX4_find_0 : decode cX4_find 0 = .ok (.aload_n 0, 1) := by decide +kernel
theorem dX4_find_1 : decode cX4_find 1 = .ok (.getfield 21, 3) := by decide +kernel
theorem dX4_find_4 : decode cX4_find 4 = .ok (.iload_n 1, 1) := by decide +kernel
theorem dX4_find_5 : decode cX4_find 5 = .ok (.invokestatic 70, 3) := by decide +kernel
theorem dX4_find_8 : decode cX4_find 8 = .ok (.ifCond .ne 46, 3) := by decide +kernel
theorem dX4_find_11 : decode cX4_find 11 = .ok (.aload_n 0, 1) := by decide +kernel
theorem dX4_find_12 : decode cX4_find 12 = .ok (.getfield 52, 3) := by decide +kernel
theorem dX4_find_15 : decode cX4_find 15 = .ok (.aload_n 0, 1) := by decide +kernel
theorem dX4_find_16 : decode cX4_find 16 = .ok (.getfield 17, 3) := by decide +kernel
theorem dX4_find_19 : decode cX4_find 19 = .ok (.arraylength, 1) := by decide +kernel
theorem dX4_find_20 : decode cX4_find 20 = .ok (.if_icmp .ge 34, 3) := by decide +kernel
theorem dX4_find_23 : decode cX4_find 23 = .ok (.aload_n 0, 1) := by decide +kernel
theorem dX4_find_24 : decode cX4_find 24 = .ok (.getfield 21, 3) := by decide +kernel
theorem dX4_find_27 : decode cX4_find 27 = .ok (.iload_n 1, 1) := by decide +kernel
theorem dX4_find_28 : decode cX4_find 28 = .ok (.iconst 1, 1) := by decide +kernel
theorem dX4_find_29 : decode cX4_find 29 = .ok (.invokestatic 74, 3) := by decide +kernel
theorem dX4_find_32 : decode cX4_find 32 = .ok (.aload_n 0, 1) := by decide +kernel
theorem dX4_find_33 : decode cX4_find 33 = .ok (.getfield 17, 3) := by decide +kernel
theorem dX4_find_36 : decode cX4_find 36 = .ok (.aload_n 0, 1) := by decide +kernel
theorem dX4_find_37 : decode cX4_find 37 = .ok (.getfield 52, 3) := by decide +kernel
theorem dX4_find_40 : decode cX4_find 40 = .ok (.iload_n 1, 1) := by decide +kernel
theorem dX4_find_41 : decode cX4_find 41 = .ok (.invokestatic 74, 3) := by decide +kernel
theorem dX4_find_44 : decode cX4_find 44 = .ok (.aload_n 0, 1) := by decide +kernel
theorem dX4_find_45 : decode cX4_find 45 = .ok (.dup, 1) := by decide +kernel
theorem dX4_find_46 : decode cX4_find 46 = .ok (.getfield 52, 3) := by decide +kernel
theorem dX4_find_49 : decode cX4_find 49 = .ok (.iconst 1, 1) := by decide +kernel
theorem dX4_find_50 : decode cX4_find 50 = .ok (.iadd, 1) := by decide +kernel
theorem dX4_find_51 : decode cX4_find 51 = .ok (.putfield 52, 3) := by decide +kernel
theorem dX4_find_54 : decode cX4_find 54 = .ok (.return_, 1) := by decide +kernel
set_option maxRecDepth 20000 in
theorem ggX4_matrix_X6_read : GoodIn wsX4_matrix wsX6_read := goodIn_r _ [4] (by decide +kernel) (by decide +kernel)
set_option maxRecDepth 20000 in
theorem gX4_matrix_X6_read_n70 : GoodIn wsX4_matrix (wsX6_read) := ggX4_matrix_X6_read
theorem dX4_matrix_0 : decode cX4_matrix 0 = .ok (.aload_n 0, 1) := by decide +kernel
theorem dX4_matrix_1 : decode cX4_matrix 1 = .ok (.getfield 17, 3) := by decide +kernel
theorem dX4_matrix_4 : decode cX4_matrix 4 = .ok (.iload_n 1, 1) := by decide +kernel
theorem dX4_matrix_5 : decode cX4_matrix 5 = .ok (.invokestatic 70, 3) := by decide +kernel
theorem dX4_matrix_8 : decode cX4_matrix 8 = .ok (.ireturn, 1) := by decide +kernel
set_option maxRecDepth 20000 in
theorem ggX4_generatorMatrix_X4_pick : GoodIn wsX4_generatorMatrix wsX4_pick := goodIn_r _ [7, 8, 9, 16, 17, 18, 19, 20, 21] (by decide +kernel) (by decide +kernel)
set_option maxRecDepth 20000 in
theorem gX4_generatorMatrix_X4_pick : GoodIn wsX4_generatorMatrix (wsV RX4 78 RX4 yX4_pick wsX4_pick) := goodIn_app (goodIn_of _ (by decide +kernel)) ggX4_generatorMatrix_X4_pick
set_option maxRecDepth 20000 in
theorem ggX4_generatorMatrix_X2_table : GoodIn wsX4_generatorMatrix wsX2_table := goodIn_r _ [14, 15, 24] (by decide +kernel) (by decide +kernel)
set_option maxRecDepth 20000 in
theorem gX4_generatorMatrix_X2_table : GoodIn wsX4_generatorMatrix (wsV RX4 36 RX2 yX2_table wsX2_table) := goodIn_app (goodIn_of _ (by decide +kernel)) ggX4_generatorMatrix_X2_table
theorem dX4_generatorMatrix_0 : decode cX4_generatorMatrix 0 = .ok (.aload_n 0, 1) := by decide +kernel
theorem dX4_generatorMatrix_1 : decode cX4_generatorMatrix 1 = .ok (.iload_n 1, 1) := by decide +kernel
theorem dX4_generatorMatrix_2 : decode cX4_generatorMatrix 2 = .ok (.invokevirtual 78, 3) := by decide +kernel
theorem dX4_generatorMatrix_5 : decode cX4_generatorMatrix 5 = .ok (.astore_n 2, 1) := by decide +kernel
theorem dX4_generatorMatrix_6 : decode cX4_generatorMatrix 6 = .ok (.aload_n 2, 1) := by decide +kernel
theorem dX4_generatorMatrix_7 : decode cX4_generatorMatrix 7 = .ok (.ifnonnull 17, 3) := by decide +kernel
theorem dX4_generatorMatrix_10 : decode cX4_generatorMatrix 10 = .ok (.aload_n 0, 1) := by decide +kernel
theorem dX4_generatorMatrix_11 : decode cX4_generatorMatrix 11 = .ok (.getfield 24, 3) := by decide +kernel
theorem dX4_generatorMatrix_14 : decode cX4_generatorMatrix 14 = .ok (.iconst 1, 1) := by decide +kernel
theorem dX4_generatorMatrix_15 : decode cX4_generatorMatrix 15 = .ok (.iconst 0, 1) := by decide +kernel
theorem dX4_generatorMatrix_16 : decode cX4_generatorMatrix 16 = .ok (.iconst 0, 1) := by decide +kernel
theorem dX4_generatorMatrix_17 : decode cX4_generatorMatrix 17 = .ok (.iconst 1, 1) := by decide +kernel
theorem dX4_generatorMatrix_18 : decode cX4_generatorMatrix 18 = .ok (.invokevirtual 36, 3) := by decide +kernel
theorem dX4_generatorMatrix_21 : decode cX4_generatorMatrix 21 = .ok (.goto 7, 3) := by decide +kernel
theorem dX4_generatorMatrix_24 : decode cX4_generatorMatrix 24 = .ok (.aload_n 2, 1) := by decide +kernel
theorem dX4_generatorMatrix_25 : decode cX4_generatorMatrix 25 = .ok (.getfield 82, 3) := by decide +kernel
theorem dX4_generatorMatrix_28 : decode cX4_generatorMatrix 28 = .ok (.ireturn, 1) := by decide +kernel
set_option maxRecDepth 20000 in
theorem ggX4_image_X4_pick : GoodIn wsX4_image wsX4_pick := goodIn_r _ [5, 6, 7, 18, 19, 20, 21, 22, 23] (by decide +kernel) (by decide +kernel)
set_option maxRecDepth 20000 in
theorem gX4_image_X4_pick : GoodIn wsX4_image (wsV RX4 78 RX4 yX4_pick wsX4_pick) := goodIn_app (goodIn_of _ (by decide +kernel)) ggX4_image_X4_pick
set_option maxRecDepth 20000 in
theorem ggX4_image_X3_image : GoodIn wsX4_image wsX3_image := goodIn_r _ [12, 13, 14, 15, 16, 17, 24, 25] (by decide +kernel) (by decide +kernel)
set_option maxRecDepth 20000 in
theorem gX4_image_X3_image : GoodIn wsX4_image (wsV RX4 84 RX3 yX3_image wsX3_image) := goodIn_app (goodIn_of _ (by decide +kernel)) ggX4_image_X3_image
theorem dX4_image_0 : decode cX4_image 0 = .ok (.aload_n 0, 1) := by decide +kernel
theorem dX4_image_1 : decode cX4_image 1 = .ok (.iload_n 1, 1) := by decide +kernel
theorem dX4_image_2 : decode cX4_image 2 = .ok (.invokevirtual 78, 3) := by decide +kernel
theorem dX4_image_5 : decode cX4_image 5 = .ok (.astore 4, 2) := by decide +kernel
theorem dX4_image_7 : decode cX4_image 7 = .ok (.aload 4, 2) := by decide +kernel
theorem dX4_image_9 : decode cX4_image 9 = .ok (.ifnonnull 7, 3) := by decide +kernel
theorem dX4_image_12 : decode cX4_image 12 = .ok (.iload_n 3, 1) := by decide +kernel
theorem dX4_image_13 : decode cX4_image 13 = .ok (.goto 10, 3) := by decide +kernel
theorem dX4_image_16 : decode cX4_image 16 = .ok (.aload 4, 2) := by decide +kernel
theorem dX4_image_18 : decode cX4_image 18 = .ok (.iload_n 2, 1) := by decide +kernel
theorem dX4_image_19 : decode cX4_image 19 = .ok (.iload_n 3, 1) := by decide +kernel
theorem dX4_image_20 : decode cX4_image 20 = .ok (.invokevirtual 84, 3) := by decide +kernel
theorem dX4_image_23 : decode cX4_image 23 = .ok (.ireturn, 1) := by decide +kernel
set_option maxRecDepth 20000 in
theorem ggX4_leaves_X4_image : GoodIn wsX4_leaves wsX4_image := goodIn_r _ [6, 7, 8, 9, 5, 10, 1, 11, 12, 13, 14, 15, 16, 17, 18, 19, 20, 21, 22, 23, 24, 25, 26, 27, 28, 29] (by decide +kernel) (by decide +kernel)
set_option maxRecDepth 20000 in
theorem gX4_leaves_X4_image : GoodIn wsX4_leaves (wsV RX4 87 RX4 yX4_image wsX4_image) := goodIn_app (goodIn_of _ (by decide +kernel)) ggX4_leaves_X4_image
theorem dX4_leaves_0 : decode cX4_leaves 0 = .ok (.iconst 0, 1) := by decide +kernel
theorem dX4_leaves_1 : decode cX4_leaves 1 = .ok (.istore_n 3, 1) := by decide +kernel
theorem dX4_leaves_2 : decode cX4_leaves 2 = .ok (.iload_n 3, 1) := by decide +kernel
theorem dX4_leaves_3 : decode cX4_leaves 3 = .ok (.aload_n 0, 1) := by decide +kernel
theorem dX4_leaves_4 : decode cX4_leaves 4 = .ok (.getfield 31, 3) := by decide +kernel
theorem dX4_leaves_7 : decode cX4_leaves 7 = .ok (.if_icmp .ge 22, 3) := by decide +kernel
theorem dX4_leaves_10 : decode cX4_leaves 10 = .ok (.aload_n 0, 1) := by decide +kernel
theorem dX4_leaves_11 : decode cX4_leaves 11 = .ok (.iload_n 3, 1) := by decide +kernel
theorem dX4_leaves_12 : decode cX4_leaves 12 = .ok (.iload_n 1, 1) := by decide +kernel
theorem dX4_leaves_13 : decode cX4_leaves 13 = .ok (.iload_n 2, 1) := by decide +kernel
theorem dX4_leaves_14 : decode cX4_leaves 14 = .ok (.invokevirtual 87, 3) := by decide +kernel
theorem dX4_leaves_17 : decode cX4_leaves 17 = .ok (.iload_n 2, 1) := by decide +kernel
theorem dX4_leaves_18 : decode cX4_leaves 18 = .ok (.if_icmp .eq 5, 3) := by decide +kernel
theorem dX4_leaves_21 : decode cX4_leaves 21 = .ok (.iconst 0, 1) := by decide +kernel
theorem dX4_leaves_22 : decode cX4_leaves 22 = .ok (.ireturn, 1) := by decide +kernel
theorem dX4_leaves_23 : decode cX4_leaves 23 = .ok (.iinc 3 1, 3) := by decide +kernel
theorem dX4_leaves_26 : decode cX4_leaves 26 = .ok (.goto (-24), 3) := by decide +kernel
theorem dX4_leaves_29 : decode cX4_leaves 29 = .ok (.iconst 1, 1) := by decide +kernel
theorem dX4_leaves_30 : decode cX4_leaves 30 = .ok (.ireturn, 1) := by decide +kernel
theorem dX5_init_0 : decode cX5_init 0 = .ok (.aload_n 0, 1) := by decide +kernel
theorem dX5_init_1 : decode cX5_init 1 = .ok (.invokespecial 3, 3) := by decide +kernel
theorem dX5_init_4 : decode cX5_init 4 = .ok (.aload_n 0, 1) := by decide +kernel
theorem dX5_init_5 : decode cX5_init 5 = .ok (.sipush 3125, 3) := by decide +kernel
theorem dX5_init_8 : decode cX5_init 8 = .ok (.newarray .int, 2) := by decide +kernel
theorem dX5_init_10 : decode cX5_init 10 = .ok (.putfield 9, 3) := by decide +kernel
theorem dX5_init_13 : decode cX5_init 13 = .ok (.aload_n 0, 1) := by decide +kernel
theorem dX5_init_14 : decode cX5_init 14 = .ok (.sipush 480, 3) := by decide +kernel
theorem dX5_init_17 : decode cX5_init 17 = .ok (.newarray .int, 2) := by decide +kernel
theorem dX5_init_19 : decode cX5_init 19 = .ok (.putfield 15, 3) := by decide +kernel
theorem dX5_init_22 : decode cX5_init 22 = .ok (.aload_n 0, 1) := by decide +kernel
theorem dX5_init_23 : decode cX5_init 23 = .ok (.sipush 480, 3) := by decide +kernel
theorem dX5_init_26 : decode cX5_init 26 = .ok (.newarray .int, 2) := by decide +kernel
theorem dX5_init_28 : decode cX5_init 28 = .ok (.putfield 18, 3) := by decide +kernel
theorem dX5_init_31 : decode cX5_init 31 = .ok (.aload_n 0, 1) := by decide +kernel
theorem dX5_init_32 : decode cX5_init 32 = .ok (.sipush 480, 3) := by decide +kernel
theorem dX5_init_35 : decode cX5_init 35 = .ok (.newarray .int, 2) := by decide +kernel
theorem dX5_init_37 : decode cX5_init 37 = .ok (.putfield 21, 3) := by decide +kernel
theorem dX5_init_40 : decode cX5_init 40 = .ok (.aload_n 0, 1) := by decide +kernel
theorem dX5_init_41 : decode cX5_init 41 = .ok (.sipush 480, 3) := by decide +kernel
theorem dX5_init_44 : decode cX5_init 44 = .ok (.newarray .int, 2) := by decide +kernel
theorem dX5_init_46 : decode cX5_init 46 = .ok (.putfield 24, 3) := by decide +kernel
theorem dX5_init_49 : decode cX5_init 49 = .ok (.aload_n 0, 1) := by decide +kernel
theorem dX5_init_50 : decode cX5_init 50 = .ok (.aload_n 1, 1) := by decide +kernel
theorem dX5_init_51 : decode cX5_init 51 = .ok (.putfield 27, 3) := by decide +kernel
theorem dX5_init_54 : decode cX5_init 54 = .ok (.return_, 1) := by decide +kernel
set_option maxRecDepth 20000 in
theorem ggX5_clear_J7_fill_53178 : GoodIn wsX5_clear wsJ7_fill_53178 := goodIn_r _ [5] (by decide +kernel) (by decide +kernel)
set_option maxRecDepth 20000 in
theorem gX5_clear_J7_fill_53178 : GoodIn wsX5_clear (va_wsS RX5 31 yJ7_fill_53178 wsJ7_fill_53178) := goodIn_app (goodIn_of _ (by decide +kernel)) ggX5_clear_J7_fill_53178
theorem dX5_clear_0 : decode cX5_clear 0 = .ok (.aload_n 0, 1) := by decide +kernel
theorem dX5_clear_1 : decode cX5_clear 1 = .ok (.getfield 9, 3) := by decide +kernel
theorem dX5_clear_4 : decode cX5_clear 4 = .ok (.iconst 0, 1) := by decide +kernel
theorem dX5_clear_5 : decode cX5_clear 5 = .ok (.invokestatic 31, 3) := by decide +kernel
theorem dX5_clear_8 : decode cX5_clear 8 = .ok (.return_, 1) := by decide +kernel
set_option maxRecDepth 20000 in
theorem ggX5_alone_X5_clear : GoodIn wsX5_alone wsX5_clear := goodIn_r _ [5, 6, 7, 8, 9, 10, 53, 54, 55, 56, 57, 58, 59] (by decide +kernel) (by decide +kernel)
set_option maxRecDepth 20000 in
theorem gX5_alone_X5_clear : GoodIn wsX5_alone (wsV RX5 37 RX5 yX5_clear wsX5_clear) := goodIn_app (goodIn_of _ (by decide +kernel)) ggX5_alone_X5_clear
set_option maxRecDepth 20000 in
theorem ggX5_alone_X5_go : GoodIn wsX5_alone wsX5_go := goodIn_r _ [14, 15, 16, 17, 18, 19, 20, 21, 22, 4, 23, 24, 25, 6, 26, 27, 28, 29, 30, 31, 32, 33, 34, 35, 36, 37, 38, 39, 40, 41, 42, 43, 44, 45, 46, 47, 48, 49, 50, 51, 52, 53, 54, 55, 56, 57, 58, 59, 60, 61, 62, 63, 64, 65, 66, 67] (by decide +kernel) (by decide +kernel)
set_option maxRecDepth 20000 in
theorem gX5_alone_X5_go : GoodIn wsX5_alone (wsV RX5 40 RX5 yX5_go wsX5_go) := goodIn_app (goodIn_of _ (by decide +kernel)) ggX5_alone_X5_go
theorem dX5_alone_0 : decode cX5_alone 0 = .ok (.aload_n 0, 1) := by decide +kernel
theorem dX5_alone_1 : decode cX5_alone 1 = .ok (.invokevirtual 37, 3) := by decide +kernel
theorem dX5_alone_4 : decode cX5_alone 4 = .ok (.aload_n 0, 1) := by decide +kernel
theorem dX5_alone_5 : decode cX5_alone 5 = .ok (.iload_n 1, 1) := by decide +kernel
theorem dX5_alone_6 : decode cX5_alone 6 = .ok (.iload_n 2, 1) := by decide +kernel
theorem dX5_alone_7 : decode cX5_alone 7 = .ok (.invokevirtual 40, 3) := by decide +kernel
theorem dX5_alone_10 : decode cX5_alone 10 = .ok (.return_, 1) := by decide +kernel
set_option maxRecDepth 20000 in
theorem ggX5_go_X5_reach : GoodIn wsX5_go wsX5_reach := goodIn_r _ [10, 1, 2, 11, 12, 5, 13, 14, 15, 16, 9, 17, 18, 19, 20, 21, 22, 41, 42, 43, 44, 45, 46, 47] (by decide +kernel) (by decide +kernel)
set_option maxRecDepth 20000 in
theorem gX5_go_X5_reach : GoodIn wsX5_go (wsV RX5 48 RX5 yX5_reach wsX5_reach) := goodIn_app (goodIn_of _ (by decide +kernel)) ggX5_go_X5_reach
set_option maxRecDepth 20000 in
theorem ggX5_go_X6_read : GoodIn wsX5_go wsX6_read := goodIn_r _ [20] (by decide +kernel) (by decide +kernel)
set_option maxRecDepth 20000 in
theorem gX5_go_X6_read_n52 : GoodIn wsX5_go (wsX6_read) := ggX5_go_X6_read
set_option maxRecDepth 20000 in
theorem ggX5_go_X4_image : GoodIn wsX5_go wsX4_image := goodIn_r _ [27, 28, 29, 30, 26, 31, 32, 33, 34, 35, 36, 37, 38, 39, 40, 18, 19, 20, 48, 49, 50, 51, 52, 53, 54, 55] (by decide +kernel) (by decide +kernel)
set_option maxRecDepth 20000 in
theorem gX5_go_X4_image : GoodIn wsX5_go (wsV RX5 61 RX4 yX4_image wsX4_image) := goodIn_app (goodIn_of _ (by decide +kernel)) ggX5_go_X4_image
theorem dX5_go_0 : decode cX5_go 0 = .ok (.aload_n 0, 1) := by decide +kernel
theorem dX5_go_1 : decode cX5_go 1 = .ok (.iconst 0, 1) := by decide +kernel
theorem dX5_go_2 : decode cX5_go 2 = .ok (.putfield 44, 3) := by decide +kernel
theorem dX5_go_5 : decode cX5_go 5 = .ok (.aload_n 0, 1) := by decide +kernel
theorem dX5_go_6 : decode cX5_go 6 = .ok (.iload_n 2, 1) := by decide +kernel
theorem dX5_go_7 : decode cX5_go 7 = .ok (.iconst 0, 1) := by decide +kernel
theorem dX5_go_8 : decode cX5_go 8 = .ok (.iconst (-1), 1) := by decide +kernel
theorem dX5_go_9 : decode cX5_go 9 = .ok (.iconst 0, 1) := by decide +kernel
theorem dX5_go_10 : decode cX5_go 10 = .ok (.invokevirtual 48, 3) := by decide +kernel
theorem dX5_go_13 : decode cX5_go 13 = .ok (.iconst 0, 1) := by decide +kernel
theorem dX5_go_14 : decode cX5_go 14 = .ok (.istore_n 3, 1) := by decide +kernel
theorem dX5_go_15 : decode cX5_go 15 = .ok (.iload_n 3, 1) := by decide +kernel
theorem dX5_go_16 : decode cX5_go 16 = .ok (.aload_n 0, 1) := by decide +kernel
theorem dX5_go_17 : decode cX5_go 17 = .ok (.getfield 44, 3) := by decide +kernel
theorem dX5_go_20 : decode cX5_go 20 = .ok (.if_icmp .ge 76, 3) := by decide +kernel
theorem dX5_go_23 : decode cX5_go 23 = .ok (.iload_n 3, 1) := by decide +kernel
theorem dX5_go_24 : decode cX5_go 24 = .ok (.sipush 480, 3) := by decide +kernel
theorem dX5_go_27 : decode cX5_go 27 = .ok (.if_icmp .ge 69, 3) := by decide +kernel
theorem dX5_go_30 : decode cX5_go 30 = .ok (.aload_n 0, 1) := by decide +kernel
theorem dX5_go_31 : decode cX5_go 31 = .ok (.getfield 15, 3) := by decide +kernel
theorem dX5_go_34 : decode cX5_go 34 = .ok (.iload_n 3, 1) := by decide +kernel
theorem dX5_go_35 : decode cX5_go 35 = .ok (.invokestatic 52, 3) := by decide +kernel
theorem dX5_go_38 : decode cX5_go 38 = .ok (.istore 4, 2) := by decide +kernel
theorem dX5_go_40 : decode cX5_go 40 = .ok (.iconst 0, 1) := by decide +kernel
theorem dX5_go_41 : decode cX5_go 41 = .ok (.istore 5, 2) := by decide +kernel
theorem dX5_go_43 : decode cX5_go 43 = .ok (.iload 5, 2) := by decide +kernel
theorem dX5_go_45 : decode cX5_go 45 = .ok (.aload_n 0, 1) := by decide +kernel
theorem dX5_go_46 : decode cX5_go 46 = .ok (.getfield 27, 3) := by decide +kernel
theorem dX5_go_49 : decode cX5_go 49 = .ok (.getfield 56, 3) := by decide +kernel
theorem dX5_go_52 : decode cX5_go 52 = .ok (.if_icmp .ge 38, 3) := by decide +kernel
theorem dX5_go_55 : decode cX5_go 55 = .ok (.aload_n 0, 1) := by decide +kernel
theorem dX5_go_56 : decode cX5_go 56 = .ok (.aload_n 0, 1) := by decide +kernel
theorem dX5_go_57 : decode cX5_go 57 = .ok (.getfield 27, 3) := by decide +kernel
theorem dX5_go_60 : decode cX5_go 60 = .ok (.iload 5, 2) := by decide +kernel
theorem dX5_go_62 : decode cX5_go 62 = .ok (.iload_n 1, 1) := by decide +kernel
theorem dX5_go_63 : decode cX5_go 63 = .ok (.iload 4, 2) := by decide +kernel
theorem dX5_go_65 : decode cX5_go 65 = .ok (.invokevirtual 61, 3) := by decide +kernel
theorem dX5_go_68 : decode cX5_go 68 = .ok (.iload_n 3, 1) := by decide +kernel
theorem dX5_go_69 : decode cX5_go 69 = .ok (.iload 5, 2) := by decide +kernel
theorem dX5_go_71 : decode cX5_go 71 = .ok (.aload_n 0, 1) := by decide +kernel
theorem dX5_go_72 : decode cX5_go 72 = .ok (.getfield 24, 3) := by decide +kernel
theorem dX5_go_75 : decode cX5_go 75 = .ok (.iload_n 3, 1) := by decide +kernel
theorem dX5_go_76 : decode cX5_go 76 = .ok (.invokestatic 52, 3) := by decide +kernel
theorem dX5_go_79 : decode cX5_go 79 = .ok (.iconst 1, 1) := by decide +kernel
theorem dX5_go_80 : decode cX5_go 80 = .ok (.iadd, 1) := by decide +kernel
theorem dX5_go_81 : decode cX5_go 81 = .ok (.invokevirtual 48, 3) := by decide +kernel
theorem dX5_go_84 : decode cX5_go 84 = .ok (.iinc 5 1, 3) := by decide +kernel
theorem dX5_go_87 : decode cX5_go 87 = .ok (.goto (-44), 3) := by decide +kernel
theorem dX5_go_90 : decode cX5_go 90 = .ok (.iinc 3 1, 3) := by decide +kernel
theorem dX5_go_93 : decode cX5_go 93 = .ok (.goto (-78), 3) := by decide +kernel
theorem dX5_go_96 : decode cX5_go 96 = .ok (.return_, 1) := by decide +kernel
set_option maxRecDepth 20000 in
theorem ggX5_reach_X5_met : GoodIn wsX5_reach wsX5_met := goodIn_r _ [11, 6, 12, 13, 14, 17, 18, 19, 20, 21, 22, 23] (by decide +kernel) (by decide +kernel)
set_option maxRecDepth 20000 in
theorem gX5_reach_X5_met : GoodIn wsX5_reach (wsV RX5 65 RX5 yX5_met wsX5_met) := goodIn_app (goodIn_of _ (by decide +kernel)) ggX5_reach_X5_met
set_option maxRecDepth 20000 in
theorem ggX5_reach_X6_write : GoodIn wsX5_reach wsX6_write := goodIn_r _ [16] (by decide +kernel) (by decide +kernel)
set_option maxRecDepth 20000 in
theorem gX5_reach_X6_write_n69 : GoodIn wsX5_reach (wsX6_write) := ggX5_reach_X6_write
theorem dX5_reach_0 : decode cX5_reach 0 = .ok (.aload_n 0, 1) := by decide +kernel
theorem dX5_reach_1 : decode cX5_reach 1 = .ok (.iload_n 1, 1) := by decide +kernel
theorem dX5_reach_2 : decode cX5_reach 2 = .ok (.invokevirtual 65, 3) := by decide +kernel
theorem dX5_reach_5 : decode cX5_reach 5 = .ok (.ifCond .ne 86, 3) := by decide +kernel
theorem dX5_reach_8 : decode cX5_reach 8 = .ok (.aload_n 0, 1) := by decide +kernel
theorem dX5_reach_9 : decode cX5_reach 9 = .ok (.getfield 44, 3) := by decide +kernel
theorem dX5_reach_12 : decode cX5_reach 12 = .ok (.aload_n 0, 1) := by decide +kernel
theorem dX5_reach_13 : decode cX5_reach 13 = .ok (.getfield 15, 3) := by decide +kernel
theorem dX5_reach_16 : decode cX5_reach 16 = .ok (.arraylength, 1) := by decide +kernel
theorem dX5_reach_17 : decode cX5_reach 17 = .ok (.if_icmp .ge 74, 3) := by decide +kernel
theorem dX5_reach_20 : decode cX5_reach 20 = .ok (.aload_n 0, 1) := by decide +kernel
theorem dX5_reach_21 : decode cX5_reach 21 = .ok (.getfield 15, 3) := by decide +kernel
theorem dX5_reach_24 : decode cX5_reach 24 = .ok (.aload_n 0, 1) := by decide +kernel
theorem dX5_reach_25 : decode cX5_reach 25 = .ok (.getfield 44, 3) := by decide +kernel
theorem dX5_reach_28 : decode cX5_reach 28 = .ok (.iload_n 1, 1) := by decide +kernel
theorem dX5_reach_29 : decode cX5_reach 29 = .ok (.invokestatic 69, 3) := by decide +kernel
theorem dX5_reach_32 : decode cX5_reach 32 = .ok (.aload_n 0, 1) := by decide +kernel
theorem dX5_reach_33 : decode cX5_reach 33 = .ok (.getfield 18, 3) := by decide +kernel
theorem dX5_reach_36 : decode cX5_reach 36 = .ok (.aload_n 0, 1) := by decide +kernel
theorem dX5_reach_37 : decode cX5_reach 37 = .ok (.getfield 44, 3) := by decide +kernel
theorem dX5_reach_40 : decode cX5_reach 40 = .ok (.iload_n 2, 1) := by decide +kernel
theorem dX5_reach_41 : decode cX5_reach 41 = .ok (.invokestatic 69, 3) := by decide +kernel
theorem dX5_reach_44 : decode cX5_reach 44 = .ok (.aload_n 0, 1) := by decide +kernel
theorem dX5_reach_45 : decode cX5_reach 45 = .ok (.getfield 21, 3) := by decide +kernel
theorem dX5_reach_48 : decode cX5_reach 48 = .ok (.aload_n 0, 1) := by decide +kernel
theorem dX5_reach_49 : decode cX5_reach 49 = .ok (.getfield 44, 3) := by decide +kernel
theorem dX5_reach_52 : decode cX5_reach 52 = .ok (.iload_n 3, 1) := by decide +kernel
theorem dX5_reach_53 : decode cX5_reach 53 = .ok (.invokestatic 69, 3) := by decide +kernel
theorem dX5_reach_56 : decode cX5_reach 56 = .ok (.aload_n 0, 1) := by decide +kernel
theorem dX5_reach_57 : decode cX5_reach 57 = .ok (.getfield 24, 3) := by decide +kernel
theorem dX5_reach_60 : decode cX5_reach 60 = .ok (.aload_n 0, 1) := by decide +kernel
theorem dX5_reach_61 : decode cX5_reach 61 = .ok (.getfield 44, 3) := by decide +kernel
theorem dX5_reach_64 : decode cX5_reach 64 = .ok (.iload 4, 2) := by decide +kernel
theorem dX5_reach_66 : decode cX5_reach 66 = .ok (.invokestatic 69, 3) := by decide +kernel
theorem dX5_reach_69 : decode cX5_reach 69 = .ok (.aload_n 0, 1) := by decide +kernel
theorem dX5_reach_70 : decode cX5_reach 70 = .ok (.dup, 1) := by decide +kernel
theorem dX5_reach_71 : decode cX5_reach 71 = .ok (.getfield 44, 3) := by decide +kernel
theorem dX5_reach_74 : decode cX5_reach 74 = .ok (.iconst 1, 1) := by decide +kernel
theorem dX5_reach_75 : decode cX5_reach 75 = .ok (.iadd, 1) := by decide +kernel
theorem dX5_reach_76 : decode cX5_reach 76 = .ok (.putfield 44, 3) := by decide +kernel
theorem dX5_reach_79 : decode cX5_reach 79 = .ok (.aload_n 0, 1) := by decide +kernel
theorem dX5_reach_80 : decode cX5_reach 80 = .ok (.getfield 9, 3) := by decide +kernel
theorem dX5_reach_83 : decode cX5_reach 83 = .ok (.iload_n 1, 1) := by decide +kernel
theorem dX5_reach_84 : decode cX5_reach 84 = .ok (.aload_n 0, 1) := by decide +kernel
theorem dX5_reach_85 : decode cX5_reach 85 = .ok (.getfield 44, 3) := by decide +kernel
theorem dX5_reach_88 : decode cX5_reach 88 = .ok (.invokestatic 69, 3) := by decide +kernel
theorem dX5_reach_91 : decode cX5_reach 91 = .ok (.return_, 1) := by decide +kernel
set_option maxRecDepth 20000 in
theorem ggX5_met_X6_read : GoodIn wsX5_met wsX6_read := goodIn_r _ [4] (by decide +kernel) (by decide +kernel)
set_option maxRecDepth 20000 in
theorem gX5_met_X6_read_n52 : GoodIn wsX5_met (wsX6_read) := ggX5_met_X6_read
theorem dX5_met_0 : decode cX5_met 0 = .ok (.aload_n 0, 1) := by decide +kernel
theorem dX5_met_1 : decode cX5_met 1 = .ok (.getfield 9, 3) := by decide +kernel
theorem dX5_met_4 : decode cX5_met 4 = .ok (.iload_n 1, 1) := by decide +kernel
theorem dX5_met_5 : decode cX5_met 5 = .ok (.invokestatic 52, 3) := by decide +kernel
theorem dX5_met_8 : decode cX5_met 8 = .ok (.ifCond .le 7, 3) := by decide +kernel
theorem dX5_met_11 : decode cX5_met 11 = .ok (.iconst 1, 1) := by decide +kernel
theorem dX5_met_12 : decode cX5_met 12 = .ok (.goto 4, 3) := by decide +kernel
theorem dX5_met_15 : decode cX5_met 15 = .ok (.iconst 0, 1) := by decide +kernel
theorem dX5_met_16 : decode cX5_met 16 = .ok (.ireturn, 1) := by decide +kernel
set_option maxRecDepth 20000 in
theorem ggX5_leastCode_X6_read : GoodIn wsX5_leastCode wsX6_read := goodIn_r _ [9] (by decide +kernel) (by decide +kernel)
set_option maxRecDepth 20000 in
theorem gX5_leastCode_X6_read_n52 : GoodIn wsX5_leastCode (wsX6_read) := ggX5_leastCode_X6_read
theorem dX5_leastCode_0 : decode cX5_leastCode 0 = .ok (.aload_n 0, 1) := by decide +kernel
theorem dX5_leastCode_1 : decode cX5_leastCode 1 = .ok (.getfield 15, 3) := by decide +kernel
theorem dX5_leastCode_4 : decode cX5_leastCode 4 = .ok (.iconst 0, 1) := by decide +kernel
theorem dX5_leastCode_5 : decode cX5_leastCode 5 = .ok (.invokestatic 52, 3) := by decide +kernel
theorem dX5_leastCode_8 : decode cX5_leastCode 8 = .ok (.istore_n 1, 1) := by decide +kernel
theorem dX5_leastCode_9 : decode cX5_leastCode 9 = .ok (.iconst 1, 1) := by decide +kernel
theorem dX5_leastCode_10 : decode cX5_leastCode 10 = .ok (.istore_n 2, 1) := by decide +kernel
theorem dX5_leastCode_11 : decode cX5_leastCode 11 = .ok (.iload_n 2, 1) := by decide +kernel
theorem dX5_leastCode_12 : decode cX5_leastCode 12 = .ok (.aload_n 0, 1) := by decide +kernel
theorem dX5_leastCode_13 : decode cX5_leastCode 13 = .ok (.getfield 44, 3) := by decide +kernel
theorem dX5_leastCode_16 : decode cX5_leastCode 16 = .ok (.if_icmp .ge 22, 3) := by decide +kernel
theorem dX5_leastCode_19 : decode cX5_leastCode 19 = .ok (.iload_n 1, 1) := by decide +kernel
theorem dX5_leastCode_20 : decode cX5_leastCode 20 = .ok (.aload_n 0, 1) := by decide +kernel
theorem dX5_leastCode_21 : decode cX5_leastCode 21 = .ok (.getfield 15, 3) := by decide +kernel
theorem dX5_leastCode_24 : decode cX5_leastCode 24 = .ok (.iload_n 2, 1) := by decide +kernel
theorem dX5_leastCode_25 : decode cX5_leastCode 25 = .ok (.invokestatic 52, 3) := by decide +kernel
theorem dX5_leastCode_28 : decode cX5_leastCode 28 = .ok (.invokestatic 73, 3) := by decide +kernel
theorem dX5_leastCode_31 : decode cX5_leastCode 31 = .ok (.istore_n 1, 1) := by decide +kernel
theorem dX5_leastCode_32 : decode cX5_leastCode 32 = .ok (.iinc 2 1, 3) := by decide +kernel
theorem dX5_leastCode_35 : decode cX5_leastCode 35 = .ok (.goto (-24), 3) := by decide +kernel
theorem dX5_leastCode_38 : decode cX5_leastCode 38 = .ok (.iload_n 1, 1) := by decide +kernel
theorem dX5_leastCode_39 : decode cX5_leastCode 39 = .ok (.ireturn, 1) := by decide +kernel
set_option maxRecDepth 20000 in
theorem ggX5_sumOfCodes_X6_read : GoodIn wsX5_sumOfCodes wsX6_read := goodIn_r _ [7] (by decide +kernel) (by decide +kernel)
set_option maxRecDepth 20000 in
theorem gX5_sumOfCodes_X6_read_n52 : GoodIn wsX5_sumOfCodes (wsX6_read) := ggX5_sumOfCodes_X6_read
set_option maxRecDepth 20000 in
theorem ggX5_sumOfCodes_X2_total : GoodIn wsX5_sumOfCodes wsX2_total := goodIn_r _ [12, 13, 27] (by decide +kernel) (by decide +kernel)
set_option maxRecDepth 20000 in
theorem gX5_sumOfCodes_X2_total : GoodIn wsX5_sumOfCodes (wsV RX5 83 RX2 yX2_total wsX2_total) := goodIn_app (goodIn_of _ (by decide +kernel)) ggX5_sumOfCodes_X2_total
theorem dX5_sumOfCodes_0 : decode cX5_sumOfCodes 0 = .ok (.iconst 0, 1) := by decide +kernel
theorem dX5_sumOfCodes_1 : decode cX5_sumOfCodes 1 = .ok (.istore_n 1, 1) := by decide +kernel
theorem dX5_sumOfCodes_2 : decode cX5_sumOfCodes 2 = .ok (.iconst 0, 1) := by decide +kernel
theorem dX5_sumOfCodes_3 : decode cX5_sumOfCodes 3 = .ok (.istore_n 2, 1) := by decide +kernel
theorem dX5_sumOfCodes_4 : decode cX5_sumOfCodes 4 = .ok (.iload_n 2, 1) := by decide +kernel
theorem dX5_sumOfCodes_5 : decode cX5_sumOfCodes 5 = .ok (.aload_n 0, 1) := by decide +kernel
theorem dX5_sumOfCodes_6 : decode cX5_sumOfCodes 6 = .ok (.getfield 44, 3) := by decide +kernel
theorem dX5_sumOfCodes_9 : decode cX5_sumOfCodes 9 = .ok (.if_icmp .ge 29, 3) := by decide +kernel
theorem dX5_sumOfCodes_12 : decode cX5_sumOfCodes 12 = .ok (.aload_n 0, 1) := by decide +kernel
theorem dX5_sumOfCodes_13 : decode cX5_sumOfCodes 13 = .ok (.getfield 27, 3) := by decide +kernel
theorem dX5_sumOfCodes_16 : decode cX5_sumOfCodes 16 = .ok (.getfield 79, 3) := by decide +kernel
theorem dX5_sumOfCodes_19 : decode cX5_sumOfCodes 19 = .ok (.iload_n 1, 1) := by decide +kernel
theorem dX5_sumOfCodes_20 : decode cX5_sumOfCodes 20 = .ok (.aload_n 0, 1) := by decide +kernel
theorem dX5_sumOfCodes_21 : decode cX5_sumOfCodes 21 = .ok (.getfield 15, 3) := by decide +kernel
theorem dX5_sumOfCodes_24 : decode cX5_sumOfCodes 24 = .ok (.iload_n 2, 1) := by decide +kernel
theorem dX5_sumOfCodes_25 : decode cX5_sumOfCodes 25 = .ok (.invokestatic 52, 3) := by decide +kernel
theorem dX5_sumOfCodes_28 : decode cX5_sumOfCodes 28 = .ok (.invokevirtual 83, 3) := by decide +kernel
theorem dX5_sumOfCodes_31 : decode cX5_sumOfCodes 31 = .ok (.istore_n 1, 1) := by decide +kernel
theorem dX5_sumOfCodes_32 : decode cX5_sumOfCodes 32 = .ok (.iinc 2 1, 3) := by decide +kernel
theorem dX5_sumOfCodes_35 : decode cX5_sumOfCodes 35 = .ok (.goto (-31), 3) := by decide +kernel
theorem dX5_sumOfCodes_38 : decode cX5_sumOfCodes 38 = .ok (.iload_n 1, 1) := by decide +kernel
theorem dX5_sumOfCodes_39 : decode cX5_sumOfCodes 39 = .ok (.ireturn, 1) := by decide +kernel
set_option maxRecDepth 20000 in
theorem ggX5_stepsTo_X5_met : GoodIn wsX5_stepsTo wsX5_met := goodIn_r _ [7, 2, 8, 9, 10, 11, 12, 13, 14, 15, 16, 17] (by decide +kernel) (by decide +kernel)
set_option maxRecDepth 20000 in
theorem gX5_stepsTo_X5_met : GoodIn wsX5_stepsTo (wsV RX5 65 RX5 yX5_met wsX5_met) := goodIn_app (goodIn_of _ (by decide +kernel)) ggX5_stepsTo_X5_met
set_option maxRecDepth 20000 in
theorem ggX5_stepsTo_X6_read : GoodIn wsX5_stepsTo wsX6_read := goodIn_r _ [10] (by decide +kernel) (by decide +kernel)
set_option maxRecDepth 20000 in
theorem gX5_stepsTo_X6_read_n52 : GoodIn wsX5_stepsTo (wsX6_read) := ggX5_stepsTo_X6_read
theorem dX5_stepsTo_0 : decode cX5_stepsTo 0 = .ok (.aload_n 0, 1) := by decide +kernel
theorem dX5_stepsTo_1 : decode cX5_stepsTo 1 = .ok (.iload_n 1, 1) := by decide +kernel
theorem dX5_stepsTo_2 : decode cX5_stepsTo 2 = .ok (.invokevirtual 65, 3) := by decide +kernel
theorem dX5_stepsTo_5 : decode cX5_stepsTo 5 = .ok (.ifCond .eq 23, 3) := by decide +kernel
theorem dX5_stepsTo_8 : decode cX5_stepsTo 8 = .ok (.aload_n 0, 1) := by decide +kernel
theorem dX5_stepsTo_9 : decode cX5_stepsTo 9 = .ok (.getfield 24, 3) := by decide +kernel
theorem dX5_stepsTo_12 : decode cX5_stepsTo 12 = .ok (.aload_n 0, 1) := by decide +kernel
theorem dX5_stepsTo_13 : decode cX5_stepsTo 13 = .ok (.getfield 9, 3) := by decide +kernel
theorem dX5_stepsTo_16 : decode cX5_stepsTo 16 = .ok (.iload_n 1, 1) := by decide +kernel
theorem dX5_stepsTo_17 : decode cX5_stepsTo 17 = .ok (.invokestatic 52, 3) := by decide +kernel
theorem dX5_stepsTo_20 : decode cX5_stepsTo 20 = .ok (.iconst 1, 1) := by decide +kernel
theorem dX5_stepsTo_21 : decode cX5_stepsTo 21 = .ok (.isub, 1) := by decide +kernel
theorem dX5_stepsTo_22 : decode cX5_stepsTo 22 = .ok (.invokestatic 52, 3) := by decide +kernel
theorem dX5_stepsTo_25 : decode cX5_stepsTo 25 = .ok (.goto 4, 3) := by decide +kernel
theorem dX5_stepsTo_28 : decode cX5_stepsTo 28 = .ok (.iconst (-1), 1) := by decide +kernel
theorem dX5_stepsTo_29 : decode cX5_stepsTo 29 = .ok (.ireturn, 1) := by decide +kernel
set_option maxRecDepth 20000 in
theorem ggX5_stepOnWayTo_X5_stepsTo : GoodIn wsX5_stepOnWayTo wsX5_stepsTo := goodIn_r _ [8, 9, 1, 10, 11, 12, 7, 13, 14, 15, 16, 17, 18, 19, 20, 21, 22, 23] (by decide +kernel) (by decide +kernel)
set_option maxRecDepth 20000 in
theorem gX5_stepOnWayTo_X5_stepsTo : GoodIn wsX5_stepOnWayTo (wsV RX5 88 RX5 yX5_stepsTo wsX5_stepsTo) := goodIn_app (goodIn_of _ (by decide +kernel)) ggX5_stepOnWayTo_X5_stepsTo
set_option maxRecDepth 20000 in
theorem ggX5_stepOnWayTo_X6_read : GoodIn wsX5_stepOnWayTo wsX6_read := goodIn_r _ [16] (by decide +kernel) (by decide +kernel)
set_option maxRecDepth 20000 in
theorem gX5_stepOnWayTo_X6_read_n52 : GoodIn wsX5_stepOnWayTo (wsX6_read) := ggX5_stepOnWayTo_X6_read
theorem dX5_stepOnWayTo_0 : decode cX5_stepOnWayTo 0 = .ok (.aload_n 0, 1) := by decide +kernel
theorem dX5_stepOnWayTo_1 : decode cX5_stepOnWayTo 1 = .ok (.iload_n 1, 1) := by decide +kernel
theorem dX5_stepOnWayTo_2 : decode cX5_stepOnWayTo 2 = .ok (.invokevirtual 88, 3) := by decide +kernel
theorem dX5_stepOnWayTo_5 : decode cX5_stepOnWayTo 5 = .ok (.istore_n 3, 1) := by decide +kernel
theorem dX5_stepOnWayTo_6 : decode cX5_stepOnWayTo 6 = .ok (.iload_n 2, 1) := by decide +kernel
theorem dX5_stepOnWayTo_7 : decode cX5_stepOnWayTo 7 = .ok (.iload_n 3, 1) := by decide +kernel
theorem dX5_stepOnWayTo_8 : decode cX5_stepOnWayTo 8 = .ok (.if_icmp .lt 5, 3) := by decide +kernel
theorem dX5_stepOnWayTo_11 : decode cX5_stepOnWayTo 11 = .ok (.iconst (-1), 1) := by decide +kernel
theorem dX5_stepOnWayTo_12 : decode cX5_stepOnWayTo 12 = .ok (.ireturn, 1) := by decide +kernel
theorem dX5_stepOnWayTo_13 : decode cX5_stepOnWayTo 13 = .ok (.aload_n 0, 1) := by decide +kernel
theorem dX5_stepOnWayTo_14 : decode cX5_stepOnWayTo 14 = .ok (.getfield 9, 3) := by decide +kernel
theorem dX5_stepOnWayTo_17 : decode cX5_stepOnWayTo 17 = .ok (.iload_n 1, 1) := by decide +kernel
theorem dX5_stepOnWayTo_18 : decode cX5_stepOnWayTo 18 = .ok (.invokestatic 52, 3) := by decide +kernel
theorem dX5_stepOnWayTo_21 : decode cX5_stepOnWayTo 21 = .ok (.iconst 1, 1) := by decide +kernel
theorem dX5_stepOnWayTo_22 : decode cX5_stepOnWayTo 22 = .ok (.isub, 1) := by decide +kernel
theorem dX5_stepOnWayTo_23 : decode cX5_stepOnWayTo 23 = .ok (.istore 4, 2) := by decide +kernel
theorem dX5_stepOnWayTo_25 : decode cX5_stepOnWayTo 25 = .ok (.iload_n 3, 1) := by decide +kernel
theorem dX5_stepOnWayTo_26 : decode cX5_stepOnWayTo 26 = .ok (.iconst 1, 1) := by decide +kernel
theorem dX5_stepOnWayTo_27 : decode cX5_stepOnWayTo 27 = .ok (.isub, 1) := by decide +kernel
theorem dX5_stepOnWayTo_28 : decode cX5_stepOnWayTo 28 = .ok (.istore 5, 2) := by decide +kernel
theorem dX5_stepOnWayTo_30 : decode cX5_stepOnWayTo 30 = .ok (.iload 5, 2) := by decide +kernel
theorem dX5_stepOnWayTo_32 : decode cX5_stepOnWayTo 32 = .ok (.iload_n 2, 1) := by decide +kernel
theorem dX5_stepOnWayTo_33 : decode cX5_stepOnWayTo 33 = .ok (.if_icmp .le 20, 3) := by decide +kernel
theorem dX5_stepOnWayTo_36 : decode cX5_stepOnWayTo 36 = .ok (.aload_n 0, 1) := by decide +kernel
theorem dX5_stepOnWayTo_37 : decode cX5_stepOnWayTo 37 = .ok (.getfield 18, 3) := by decide +kernel
theorem dX5_stepOnWayTo_40 : decode cX5_stepOnWayTo 40 = .ok (.iload 4, 2) := by decide +kernel
theorem dX5_stepOnWayTo_42 : decode cX5_stepOnWayTo 42 = .ok (.invokestatic 52, 3) := by decide +kernel
theorem dX5_stepOnWayTo_45 : decode cX5_stepOnWayTo 45 = .ok (.istore 4, 2) := by decide +kernel
theorem dX5_stepOnWayTo_47 : decode cX5_stepOnWayTo 47 = .ok (.iinc 5 (-1), 3) := by decide +kernel
theorem dX5_stepOnWayTo_50 : decode cX5_stepOnWayTo 50 = .ok (.goto (-20), 3) := by decide +kernel
theorem dX5_stepOnWayTo_53 : decode cX5_stepOnWayTo 53 = .ok (.aload_n 0, 1) := by decide +kernel
theorem dX5_stepOnWayTo_54 : decode cX5_stepOnWayTo 54 = .ok (.getfield 21, 3) := by decide +kernel
theorem dX5_stepOnWayTo_57 : decode cX5_stepOnWayTo 57 = .ok (.iload 4, 2) := by decide +kernel
theorem dX5_stepOnWayTo_59 : decode cX5_stepOnWayTo 59 = .ok (.invokestatic 52, 3) := by decide +kernel
theorem dX5_stepOnWayTo_62 : decode cX5_stepOnWayTo 62 = .ok (.ireturn, 1) := by decide +kernel
