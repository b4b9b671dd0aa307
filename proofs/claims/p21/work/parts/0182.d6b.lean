theorem dX6_orbitsAnew_16 : decode cX6_orbitsAnew 16 = .ok (.getfield 66, 3) := by decide +kernel
theorem dX6_orbitsAnew_19 : decode cX6_orbitsAnew 19 = .ok (.iload_n 1, 1) := by decide +kernel
theorem dX6_orbitsAnew_20 : decode cX6_orbitsAnew 20 = .ok (.aload_n 0, 1) := by decide +kernel
theorem dX6_orbitsAnew_21 : decode cX6_orbitsAnew 21 = .ok (.iload_n 1, 1) := by decide +kernel
theorem dX6_orbitsAnew_22 : decode cX6_orbitsAnew 22 = .ok (.invokevirtual 257, 3) := by decide +kernel
theorem dX6_orbitsAnew_25 : decode cX6_orbitsAnew 25 = .ok (.invokestatic 107, 3) := by decide +kernel
theorem dX6_orbitsAnew_28 : decode cX6_orbitsAnew 28 = .ok (.aload_n 0, 1) := by decide +kernel
theorem dX6_orbitsAnew_29 : decode cX6_orbitsAnew 29 = .ok (.getfield 37, 3) := by decide +kernel
theorem dX6_orbitsAnew_32 : decode cX6_orbitsAnew 32 = .ok (.getfield 177, 3) := by decide +kernel
theorem dX6_orbitsAnew_35 : decode cX6_orbitsAnew 35 = .ok (.ifCond .le 22, 3) := by decide +kernel
theorem dX6_orbitsAnew_38 : decode cX6_orbitsAnew 38 = .ok (.aload_n 0, 1) := by decide +kernel
theorem dX6_orbitsAnew_39 : decode cX6_orbitsAnew 39 = .ok (.getfield 66, 3) := by decide +kernel
theorem dX6_orbitsAnew_42 : decode cX6_orbitsAnew 42 = .ok (.iload_n 1, 1) := by decide +kernel
theorem dX6_orbitsAnew_43 : decode cX6_orbitsAnew 43 = .ok (.invokestatic 114, 3) := by decide +kernel
theorem dX6_orbitsAnew_46 : decode cX6_orbitsAnew 46 = .ok (.aload_n 0, 1) := by decide +kernel
theorem dX6_orbitsAnew_47 : decode cX6_orbitsAnew 47 = .ok (.getfield 37, 3) := by decide +kernel
theorem dX6_orbitsAnew_50 : decode cX6_orbitsAnew 50 = .ok (.getfield 177, 3) := by decide +kernel
theorem dX6_orbitsAnew_53 : decode cX6_orbitsAnew 53 = .ok (.idiv, 1) := by decide +kernel
theorem dX6_orbitsAnew_54 : decode cX6_orbitsAnew 54 = .ok (.goto 4, 3) := by decide +kernel
theorem dX6_orbitsAnew_57 : decode cX6_orbitsAnew 57 = .ok (.iconst 0, 1) := by decide +kernel
theorem dX6_orbitsAnew_58 : decode cX6_orbitsAnew 58 = .ok (.ireturn, 1) := by decide +kernel
theorem dX6_checkForm_0 : decode cX6_checkForm 0 = .ok (.iload_n 1, 1) := by decide +kernel
theorem dX6_checkForm_1 : decode cX6_checkForm 1 = .ok (.ifCond .lt 11, 3) := by decide +kernel
theorem dX6_checkForm_4 : decode cX6_checkForm 4 = .ok (.iload_n 1, 1) := by decide +kernel
theorem dX6_checkForm_5 : decode cX6_checkForm 5 = .ok (.aload_n 0, 1) := by decide +kernel
theorem dX6_checkForm_6 : decode cX6_checkForm 6 = .ok (.getfield 69, 3) := by decide +kernel
theorem dX6_checkForm_9 : decode cX6_checkForm 9 = .ok (.if_icmp .lt 14, 3) := by decide +kernel
theorem dX6_checkForm_12 : decode cX6_checkForm 12 = .ok (.new 157, 3) := by decide +kernel
theorem dX6_checkForm_15 : decode cX6_checkForm 15 = .ok (.dup, 1) := by decide +kernel
theorem dX6_checkForm_16 : decode cX6_checkForm 16 = .ok (.ldc_w 260, 3) := by decide +kernel
theorem dX6_checkForm_19 : decode cX6_checkForm 19 = .ok (.invokespecial 161, 3) := by decide +kernel
theorem dX6_checkForm_22 : decode cX6_checkForm 22 = .ok (.athrow, 1) := by decide +kernel
theorem dX6_checkForm_23 : decode cX6_checkForm 23 = .ok (.return_, 1) := by decide +kernel
set_option maxRecDepth 20000 in
theorem ggX6_checkAlike_X6_read : GoodIn wsX6_checkAlike wsX6_read := goodIn_r _ [7] (by decide +kernel) (by decide +kernel)
set_option maxRecDepth 20000 in
theorem gX6_checkAlike_X6_read : GoodIn wsX6_checkAlike (va_wsS RX6 114 yX6_read wsX6_read) := goodIn_app (goodIn_of _ (by decide +kernel)) ggX6_checkAlike_X6_read
theorem dX6_checkAlike_0 : decode cX6_checkAlike 0 = .ok (.aload_n 0, 1) := by decide +kernel
theorem dX6_checkAlike_1 : decode cX6_checkAlike 1 = .ok (.getfield 50, 3) := by decide +kernel
theorem dX6_checkAlike_4 : decode cX6_checkAlike 4 = .ok (.iload_n 1, 1) := by decide +kernel
theorem dX6_checkAlike_5 : decode cX6_checkAlike 5 = .ok (.invokestatic 114, 3) := by decide +kernel
theorem dX6_checkAlike_8 : decode cX6_checkAlike 8 = .ok (.aload_n 0, 1) := by decide +kernel
theorem dX6_checkAlike_9 : decode cX6_checkAlike 9 = .ok (.getfield 50, 3) := by decide +kernel
theorem dX6_checkAlike_12 : decode cX6_checkAlike 12 = .ok (.iload_n 2, 1) := by decide +kernel
theorem dX6_checkAlike_13 : decode cX6_checkAlike 13 = .ok (.invokestatic 114, 3) := by decide +kernel
theorem dX6_checkAlike_16 : decode cX6_checkAlike 16 = .ok (.if_icmp .eq 14, 3) := by decide +kernel
theorem dX6_checkAlike_19 : decode cX6_checkAlike 19 = .ok (.new 73, 3) := by decide +kernel
theorem dX6_checkAlike_22 : decode cX6_checkAlike 22 = .ok (.dup, 1) := by decide +kernel
theorem dX6_checkAlike_23 : decode cX6_checkAlike 23 = .ok (.ldc_w 262, 3) := by decide +kernel
theorem dX6_checkAlike_26 : decode cX6_checkAlike 26 = .ok (.invokespecial 77, 3) := by decide +kernel
theorem dX6_checkAlike_29 : decode cX6_checkAlike 29 = .ok (.athrow, 1) := by decide +kernel
theorem dX6_checkAlike_30 : decode cX6_checkAlike 30 = .ok (.return_, 1) := by decide +kernel
set_option maxRecDepth 20000 in
theorem ggX6_checkDegree_X6_isDegree : GoodIn wsX6_checkDegree wsX6_isDegree := goodIn_r _ [6] (by decide +kernel) (by decide +kernel)
set_option maxRecDepth 20000 in
theorem gX6_checkDegree_X6_isDegree : GoodIn wsX6_checkDegree (va_wsS RX6 92 yX6_isDegree wsX6_isDegree) := goodIn_app (goodIn_of _ (by decide +kernel)) ggX6_checkDegree_X6_isDegree
theorem dX6_checkDegree_0 : decode cX6_checkDegree 0 = .ok (.iload_n 0, 1) := by decide +kernel
theorem dX6_checkDegree_1 : decode cX6_checkDegree 1 = .ok (.invokestatic 92, 3) := by decide +kernel
theorem dX6_checkDegree_4 : decode cX6_checkDegree 4 = .ok (.ifCond .ne 14, 3) := by decide +kernel
theorem dX6_checkDegree_7 : decode cX6_checkDegree 7 = .ok (.new 73, 3) := by decide +kernel
theorem dX6_checkDegree_10 : decode cX6_checkDegree 10 = .ok (.dup, 1) := by decide +kernel
theorem dX6_checkDegree_11 : decode cX6_checkDegree 11 = .ok (.ldc_w 264, 3) := by decide +kernel
theorem dX6_checkDegree_14 : decode cX6_checkDegree 14 = .ok (.invokespecial 77, 3) := by decide +kernel
theorem dX6_checkDegree_17 : decode cX6_checkDegree 17 = .ok (.athrow, 1) := by decide +kernel
theorem dX6_checkDegree_18 : decode cX6_checkDegree 18 = .ok (.return_, 1) := by decide +kernel
theorem dX6_isDegree_0 : decode cX6_isDegree 0 = .ok (.iload_n 0, 1) := by decide +kernel
theorem dX6_isDegree_1 : decode cX6_isDegree 1 = .ok (.iconst 1, 1) := by decide +kernel
theorem dX6_isDegree_2 : decode cX6_isDegree 2 = .ok (.if_icmp .lt 12, 3) := by decide +kernel
theorem dX6_isDegree_5 : decode cX6_isDegree 5 = .ok (.iload_n 0, 1) := by decide +kernel
theorem dX6_isDegree_6 : decode cX6_isDegree 6 = .ok (.iconst 4, 1) := by decide +kernel
theorem dX6_isDegree_7 : decode cX6_isDegree 7 = .ok (.if_icmp .gt 7, 3) := by decide +kernel
theorem dX6_isDegree_10 : decode cX6_isDegree 10 = .ok (.iconst 1, 1) := by decide +kernel
theorem dX6_isDegree_11 : decode cX6_isDegree 11 = .ok (.goto 4, 3) := by decide +kernel
theorem dX6_isDegree_14 : decode cX6_isDegree 14 = .ok (.iconst 0, 1) := by decide +kernel
theorem dX6_isDegree_15 : decode cX6_isDegree 15 = .ok (.ireturn, 1) := by decide +kernel
theorem dX6_read_0 : decode cX6_read 0 = .ok (.aload_n 0, 1) := by decide +kernel
theorem dX6_read_1 : decode cX6_read 1 = .ok (.ifnull 19, 3) := by decide +kernel
theorem dX6_read_4 : decode cX6_read 4 = .ok (.iload_n 1, 1) := by decide +kernel
theorem dX6_read_5 : decode cX6_read 5 = .ok (.ifCond .lt 15, 3) := by decide +kernel
theorem dX6_read_8 : decode cX6_read 8 = .ok (.iload_n 1, 1) := by decide +kernel
theorem dX6_read_9 : decode cX6_read 9 = .ok (.aload_n 0, 1) := by decide +kernel
theorem dX6_read_10 : decode cX6_read 10 = .ok (.arraylength, 1) := by decide +kernel
theorem dX6_read_11 : decode cX6_read 11 = .ok (.if_icmp .ge 9, 3) := by decide +kernel
theorem dX6_read_14 : decode cX6_read 14 = .ok (.aload_n 0, 1) := by decide +kernel
theorem dX6_read_15 : decode cX6_read 15 = .ok (.iload_n 1, 1) := by decide +kernel
theorem dX6_read_16 : decode cX6_read 16 = .ok (.iaload, 1) := by decide +kernel
theorem dX6_read_17 : decode cX6_read 17 = .ok (.goto 4, 3) := by decide +kernel
theorem dX6_read_20 : decode cX6_read 20 = .ok (.iconst 0, 1) := by decide +kernel
theorem dX6_read_21 : decode cX6_read 21 = .ok (.ireturn, 1) := by decide +kernel
theorem dX6_write_0 : decode cX6_write 0 = .ok (.aload_n 0, 1) := by decide +kernel
theorem dX6_write_1 : decode cX6_write 1 = .ok (.ifnull 17, 3) := by decide +kernel
theorem dX6_write_4 : decode cX6_write 4 = .ok (.iload_n 1, 1) := by decide +kernel
theorem dX6_write_5 : decode cX6_write 5 = .ok (.ifCond .lt 13, 3) := by decide +kernel
theorem dX6_write_8 : decode cX6_write 8 = .ok (.iload_n 1, 1) := by decide +kernel
theorem dX6_write_9 : decode cX6_write 9 = .ok (.aload_n 0, 1) := by decide +kernel
theorem dX6_write_10 : decode cX6_write 10 = .ok (.arraylength, 1) := by decide +kernel
theorem dX6_write_11 : decode cX6_write 11 = .ok (.if_icmp .ge 7, 3) := by decide +kernel
theorem dX6_write_14 : decode cX6_write 14 = .ok (.aload_n 0, 1) := by decide +kernel
theorem dX6_write_15 : decode cX6_write 15 = .ok (.iload_n 1, 1) := by decide +kernel
theorem dX6_write_16 : decode cX6_write 16 = .ok (.iload_n 2, 1) := by decide +kernel
theorem dX6_write_17 : decode cX6_write 17 = .ok (.iastore, 1) := by decide +kernel
theorem dX6_write_18 : decode cX6_write 18 = .ok (.return_, 1) := by decide +kernel
set_option maxRecDepth 20000 in
theorem ggX6_countLeftForms_X4_matrix : GoodIn wsX6_countLeftForms wsX4_matrix := goodIn_r _ [10, 11, 12, 13, 14, 108, 109, 110, 111, 112, 113] (by decide +kernel) (by decide +kernel)
set_option maxRecDepth 20000 in
theorem gX6_countLeftForms_X4_matrix : GoodIn wsX6_countLeftForms (wsV RX6 266 RX4 yX4_matrix wsX4_matrix) := goodIn_app (goodIn_of _ (by decide +kernel)) ggX6_countLeftForms_X4_matrix
set_option maxRecDepth 20000 in
theorem ggX6_countLeftForms_X0_fill : GoodIn wsX6_countLeftForms wsX0_fill := goodIn_r _ [19, 20, 21, 22, 23, 24, 25, 26, 27, 28, 29, 30, 31, 32, 33, 34, 35, 36, 37, 38, 39, 40, 41, 13, 42, 43, 44, 45, 18, 46, 47, 48, 49, 50, 12, 14, 51, 114, 115, 116, 117] (by decide +kernel) (by decide +kernel)
set_option maxRecDepth 20000 in
theorem gX6_countLeftForms_X0_fill : GoodIn wsX6_countLeftForms (wsV RX6 203 RX0 yX0_fill wsX0_fill) := goodIn_app (goodIn_of _ (by decide +kernel)) ggX6_countLeftForms_X0_fill
set_option maxRecDepth 20000 in
theorem ggX6_countLeftForms_X1_begin : GoodIn wsX6_countLeftForms wsX1_begin := goodIn_r _ [56, 57, 58, 118, 119, 120, 121] (by decide +kernel) (by decide +kernel)
set_option maxRecDepth 20000 in
theorem gX6_countLeftForms_X1_begin : GoodIn wsX6_countLeftForms (wsV RX6 197 RX1 yX1_begin wsX1_begin) := goodIn_app (goodIn_of _ (by decide +kernel)) ggX6_countLeftForms_X1_begin
set_option maxRecDepth 20000 in
theorem ggX6_countLeftForms_X1_askToLeave : GoodIn wsX6_countLeftForms wsX1_askToLeave := goodIn_r _ [62, 57, 58, 63, 48, 49, 18, 50, 21, 12, 13, 14, 64, 65, 66, 55, 67, 68, 69, 70, 34, 35, 26, 36, 32, 37, 38, 39, 40, 41, 42, 118, 119, 120, 121, 114, 115, 116, 117] (by decide +kernel) (by decide +kernel)
set_option maxRecDepth 20000 in
theorem gX6_countLeftForms_X1_askToLeave : GoodIn wsX6_countLeftForms (wsV RX6 205 RX1 yX1_askToLeave wsX1_askToLeave) := goodIn_app (goodIn_of _ (by decide +kernel)) ggX6_countLeftForms_X1_askToLeave
set_option maxRecDepth 20000 in
theorem ggX6_countLeftForms_X1_freedom : GoodIn wsX6_countLeftForms wsX1_freedom := goodIn_r _ [74, 57, 75, 76, 77, 55, 78, 58, 79, 80, 81, 82, 68, 12, 13, 14, 83, 84, 85, 86, 64, 65, 66, 67, 69, 70, 34, 35, 26, 36, 32, 37, 38, 39, 40, 41, 42, 87, 88, 89, 90, 91, 92, 93, 94, 33, 118, 119, 120, 121, 117] (by decide +kernel) (by decide +kernel)
set_option maxRecDepth 20000 in
theorem gX6_countLeftForms_X1_freedom : GoodIn wsX6_countLeftForms (wsV RX6 209 RX1 yX1_freedom wsX1_freedom) := goodIn_app (goodIn_of _ (by decide +kernel)) ggX6_countLeftForms_X1_freedom
set_option maxRecDepth 20000 in
theorem ggX6_countLeftForms_X2_howMany : GoodIn wsX6_countLeftForms wsX2_howMany := goodIn_r _ [31, 32, 117] (by decide +kernel) (by decide +kernel)
set_option maxRecDepth 20000 in
theorem gX6_countLeftForms_X2_howMany : GoodIn wsX6_countLeftForms (wsV RX6 96 RX2 yX2_howMany wsX2_howMany) := goodIn_app (goodIn_of _ (by decide +kernel)) ggX6_countLeftForms_X2_howMany
theorem dX6_countLeftForms_0 : decode cX6_countLeftForms 0 = .ok (.iconst 0, 1) := by decide +kernel
theorem dX6_countLeftForms_1 : decode cX6_countLeftForms 1 = .ok (.istore_n 2, 1) := by decide +kernel
theorem dX6_countLeftForms_2 : decode cX6_countLeftForms 2 = .ok (.iconst 0, 1) := by decide +kernel
theorem dX6_countLeftForms_3 : decode cX6_countLeftForms 3 = .ok (.istore_n 3, 1) := by decide +kernel
theorem dX6_countLeftForms_4 : decode cX6_countLeftForms 4 = .ok (.iload_n 3, 1) := by decide +kernel
theorem dX6_countLeftForms_5 : decode cX6_countLeftForms 5 = .ok (.aload_n 0, 1) := by decide +kernel
theorem dX6_countLeftForms_6 : decode cX6_countLeftForms 6 = .ok (.getfield 37, 3) := by decide +kernel
theorem dX6_countLeftForms_9 : decode cX6_countLeftForms 9 = .ok (.getfield 177, 3) := by decide +kernel
theorem dX6_countLeftForms_12 : decode cX6_countLeftForms 12 = .ok (.if_icmp .ge 63, 3) := by decide +kernel
theorem dX6_countLeftForms_15 : decode cX6_countLeftForms 15 = .ok (.aload_n 0, 1) := by decide +kernel
theorem dX6_countLeftForms_16 : decode cX6_countLeftForms 16 = .ok (.getfield 23, 3) := by decide +kernel
theorem dX6_countLeftForms_19 : decode cX6_countLeftForms 19 = .ok (.aload_n 0, 1) := by decide +kernel
theorem dX6_countLeftForms_20 : decode cX6_countLeftForms 20 = .ok (.getfield 37, 3) := by decide +kernel
theorem dX6_countLeftForms_23 : decode cX6_countLeftForms 23 = .ok (.iload_n 3, 1) := by decide +kernel
theorem dX6_countLeftForms_24 : decode cX6_countLeftForms 24 = .ok (.invokevirtual 266, 3) := by decide +kernel
theorem dX6_countLeftForms_27 : decode cX6_countLeftForms 27 = .ok (.iload_n 1, 1) := by decide +kernel
theorem dX6_countLeftForms_28 : decode cX6_countLeftForms 28 = .ok (.invokevirtual 203, 3) := by decide +kernel
theorem dX6_countLeftForms_31 : decode cX6_countLeftForms 31 = .ok (.aload_n 0, 1) := by decide +kernel
theorem dX6_countLeftForms_32 : decode cX6_countLeftForms 32 = .ok (.getfield 30, 3) := by decide +kernel
theorem dX6_countLeftForms_35 : decode cX6_countLeftForms 35 = .ok (.iload_n 1, 1) := by decide +kernel
theorem dX6_countLeftForms_36 : decode cX6_countLeftForms 36 = .ok (.iconst 1, 1) := by decide +kernel
theorem dX6_countLeftForms_37 : decode cX6_countLeftForms 37 = .ok (.iadd, 1) := by decide +kernel
theorem dX6_countLeftForms_38 : decode cX6_countLeftForms 38 = .ok (.invokevirtual 197, 3) := by decide +kernel
theorem dX6_countLeftForms_41 : decode cX6_countLeftForms 41 = .ok (.aload_n 0, 1) := by decide +kernel
theorem dX6_countLeftForms_42 : decode cX6_countLeftForms 42 = .ok (.getfield 30, 3) := by decide +kernel
theorem dX6_countLeftForms_45 : decode cX6_countLeftForms 45 = .ok (.aload_n 0, 1) := by decide +kernel
theorem dX6_countLeftForms_46 : decode cX6_countLeftForms 46 = .ok (.getfield 23, 3) := by decide +kernel
theorem dX6_countLeftForms_49 : decode cX6_countLeftForms 49 = .ok (.invokevirtual 205, 3) := by decide +kernel
theorem dX6_countLeftForms_52 : decode cX6_countLeftForms 52 = .ok (.iload_n 2, 1) := by decide +kernel
theorem dX6_countLeftForms_53 : decode cX6_countLeftForms 53 = .ok (.aload_n 0, 1) := by decide +kernel
theorem dX6_countLeftForms_54 : decode cX6_countLeftForms 54 = .ok (.getfield 14, 3) := by decide +kernel
theorem dX6_countLeftForms_57 : decode cX6_countLeftForms 57 = .ok (.aload_n 0, 1) := by decide +kernel
theorem dX6_countLeftForms_58 : decode cX6_countLeftForms 58 = .ok (.getfield 30, 3) := by decide +kernel
theorem dX6_countLeftForms_61 : decode cX6_countLeftForms 61 = .ok (.invokevirtual 209, 3) := by decide +kernel
theorem dX6_countLeftForms_64 : decode cX6_countLeftForms 64 = .ok (.invokevirtual 96, 3) := by decide +kernel
theorem dX6_countLeftForms_67 : decode cX6_countLeftForms 67 = .ok (.iadd, 1) := by decide +kernel
theorem dX6_countLeftForms_68 : decode cX6_countLeftForms 68 = .ok (.istore_n 2, 1) := by decide +kernel
theorem dX6_countLeftForms_69 : decode cX6_countLeftForms 69 = .ok (.iinc 3 1, 3) := by decide +kernel
theorem dX6_countLeftForms_72 : decode cX6_countLeftForms 72 = .ok (.goto (-68), 3) := by decide +kernel
theorem dX6_countLeftForms_75 : decode cX6_countLeftForms 75 = .ok (.iload_n 2, 1) := by decide +kernel
theorem dX6_countLeftForms_76 : decode cX6_countLeftForms 76 = .ok (.ireturn, 1) := by decide +kernel
set_option maxRecDepth 20000 in
theorem ggX6_countRoots_X6_divisions : GoodIn wsX6_countRoots wsX6_divisions := goodIn_r _ [7, 1, 8, 2, 9, 10, 11, 12, 13, 14, 15, 16, 17, 18, 19, 20, 21, 22, 23, 6, 24, 25, 26, 27, 28, 29, 30, 31, 32, 33, 34, 35, 36, 37, 38, 39, 40, 41, 42, 43, 44, 45, 46, 47, 48, 49, 50] (by decide +kernel) (by decide +kernel)
set_option maxRecDepth 20000 in
theorem gX6_countRoots_X6_divisions : GoodIn wsX6_countRoots (wsV RX6 162 RX6 yX6_divisions wsX6_divisions) := goodIn_app (goodIn_of _ (by decide +kernel)) ggX6_countRoots_X6_divisions
theorem dX6_countRoots_0 : decode cX6_countRoots 0 = .ok (.iconst 0, 1) := by decide +kernel
theorem dX6_countRoots_1 : decode cX6_countRoots 1 = .ok (.istore_n 3, 1) := by decide +kernel
theorem dX6_countRoots_2 : decode cX6_countRoots 2 = .ok (.iconst 0, 1) := by decide +kernel
theorem dX6_countRoots_3 : decode cX6_countRoots 3 = .ok (.istore 4, 2) := by decide +kernel
theorem dX6_countRoots_5 : decode cX6_countRoots 5 = .ok (.iload 4, 2) := by decide +kernel
theorem dX6_countRoots_7 : decode cX6_countRoots 7 = .ok (.aload_n 0, 1) := by decide +kernel
theorem dX6_countRoots_8 : decode cX6_countRoots 8 = .ok (.getfield 14, 3) := by decide +kernel
theorem dX6_countRoots_11 : decode cX6_countRoots 11 = .ok (.getfield 80, 3) := by decide +kernel
theorem dX6_countRoots_14 : decode cX6_countRoots 14 = .ok (.if_icmp .gt 23, 3) := by decide +kernel
theorem dX6_countRoots_17 : decode cX6_countRoots 17 = .ok (.aload_n 0, 1) := by decide +kernel
theorem dX6_countRoots_18 : decode cX6_countRoots 18 = .ok (.iload_n 1, 1) := by decide +kernel
theorem dX6_countRoots_19 : decode cX6_countRoots 19 = .ok (.iload_n 2, 1) := by decide +kernel
theorem dX6_countRoots_20 : decode cX6_countRoots 20 = .ok (.iload 4, 2) := by decide +kernel
theorem dX6_countRoots_22 : decode cX6_countRoots 22 = .ok (.invokevirtual 162, 3) := by decide +kernel
theorem dX6_countRoots_25 : decode cX6_countRoots 25 = .ok (.ifCond .le 6, 3) := by decide +kernel
theorem dX6_countRoots_28 : decode cX6_countRoots 28 = .ok (.iinc 3 1, 3) := by decide +kernel
theorem dX6_countRoots_31 : decode cX6_countRoots 31 = .ok (.iinc 4 1, 3) := by decide +kernel
theorem dX6_countRoots_34 : decode cX6_countRoots 34 = .ok (.goto (-29), 3) := by decide +kernel
theorem dX6_countRoots_37 : decode cX6_countRoots 37 = .ok (.iload_n 3, 1) := by decide +kernel
theorem dX6_countRoots_38 : decode cX6_countRoots 38 = .ok (.ireturn, 1) := by decide +kernel
set_option maxRecDepth 20000 in
theorem ggX6_isNull_X6_divisions : GoodIn wsX6_isNull wsX6_divisions := goodIn_r _ [7, 1, 8, 2, 9, 10, 11, 12, 13, 14, 15, 16, 17, 18, 19, 20, 21, 22, 23, 6, 24, 25, 26, 27, 28, 29, 30, 31, 32, 33, 34, 35, 36, 37, 38, 39, 40, 41, 42, 43, 44, 45, 46, 47, 48, 49, 50] (by decide +kernel) (by decide +kernel)
set_option maxRecDepth 20000 in
theorem gX6_isNull_X6_divisions : GoodIn wsX6_isNull (wsV RX6 162 RX6 yX6_divisions wsX6_divisions) := goodIn_app (goodIn_of _ (by decide +kernel)) ggX6_isNull_X6_divisions
theorem dX6_isNull_0 : decode cX6_isNull 0 = .ok (.iconst 0, 1) := by decide +kernel
theorem dX6_isNull_1 : decode cX6_isNull 1 = .ok (.istore_n 3, 1) := by decide +kernel
theorem dX6_isNull_2 : decode cX6_isNull 2 = .ok (.iload_n 3, 1) := by decide +kernel
theorem dX6_isNull_3 : decode cX6_isNull 3 = .ok (.aload_n 0, 1) := by decide +kernel
theorem dX6_isNull_4 : decode cX6_isNull 4 = .ok (.getfield 14, 3) := by decide +kernel
theorem dX6_isNull_7 : decode cX6_isNull 7 = .ok (.getfield 80, 3) := by decide +kernel
theorem dX6_isNull_10 : decode cX6_isNull 10 = .ok (.if_icmp .gt 24, 3) := by decide +kernel
theorem dX6_isNull_13 : decode cX6_isNull 13 = .ok (.iconst 2, 1) := by decide +kernel
theorem dX6_isNull_14 : decode cX6_isNull 14 = .ok (.aload_n 0, 1) := by decide +kernel
theorem dX6_isNull_15 : decode cX6_isNull 15 = .ok (.iload_n 1, 1) := by decide +kernel
theorem dX6_isNull_16 : decode cX6_isNull 16 = .ok (.iload_n 2, 1) := by decide +kernel
theorem dX6_isNull_17 : decode cX6_isNull 17 = .ok (.iload_n 3, 1) := by decide +kernel
theorem dX6_isNull_18 : decode cX6_isNull 18 = .ok (.invokevirtual 162, 3) := by decide +kernel
theorem dX6_isNull_21 : decode cX6_isNull 21 = .ok (.imul, 1) := by decide +kernel
theorem dX6_isNull_22 : decode cX6_isNull 22 = .ok (.iload_n 1, 1) := by decide +kernel
theorem dX6_isNull_23 : decode cX6_isNull 23 = .ok (.if_icmp .le 5, 3) := by decide +kernel
theorem dX6_isNull_26 : decode cX6_isNull 26 = .ok (.iconst 1, 1) := by decide +kernel
theorem dX6_isNull_27 : decode cX6_isNull 27 = .ok (.ireturn, 1) := by decide +kernel
theorem dX6_isNull_28 : decode cX6_isNull 28 = .ok (.iinc 3 1, 3) := by decide +kernel
theorem dX6_isNull_31 : decode cX6_isNull 31 = .ok (.goto (-29), 3) := by decide +kernel
theorem dX6_isNull_34 : decode cX6_isNull 34 = .ok (.iconst 0, 1) := by decide +kernel
theorem dX6_isNull_35 : decode cX6_isNull 35 = .ok (.ireturn, 1) := by decide +kernel
set_option maxRecDepth 20000 in
theorem ggX6_divisions_X2_spell : GoodIn wsX6_divisions wsX2_spell := goodIn_r _ [8, 9, 10, 11, 12, 7, 13, 14, 15, 16, 17, 18, 19, 20, 46] (by decide +kernel) (by decide +kernel)
set_option maxRecDepth 20000 in
theorem gX6_divisions_X2_spell : GoodIn wsX6_divisions (wsV RX6 147 RX2 yX2_spell wsX2_spell) := goodIn_app (goodIn_of _ (by decide +kernel)) ggX6_divisions_X2_spell
set_option maxRecDepth 20000 in
theorem ggX6_divisions_X6_divideByY : GoodIn wsX6_divisions wsX6_divideByY := goodIn_r _ [24, 2, 25, 26, 19, 27, 28, 18, 20, 34, 35, 36, 37, 38, 39, 40, 41, 42, 43, 44, 45] (by decide +kernel) (by decide +kernel)
set_option maxRecDepth 20000 in
theorem gX6_divisions_X6_divideByY : GoodIn wsX6_divisions (wsV RX6 269 RX6 yX6_divideByY wsX6_divideByY) := goodIn_app (goodIn_of _ (by decide +kernel)) ggX6_divisions_X6_divideByY
set_option maxRecDepth 20000 in
theorem ggX6_divisions_X6_divideByPoint : GoodIn wsX6_divisions wsX6_divideByPoint := goodIn_r _ [32, 1, 2, 25, 26, 19, 27, 33, 11, 12, 7, 13, 9, 14, 15, 16, 17, 28, 18, 20, 34, 35, 36, 37, 38, 39, 40, 41, 42, 43, 44, 45, 46] (by decide +kernel) (by decide +kernel)
set_option maxRecDepth 20000 in
theorem gX6_divisions_X6_divideByPoint : GoodIn wsX6_divisions (wsV RX6 272 RX6 yX6_divideByPoint wsX6_divideByPoint) := goodIn_app (goodIn_of _ (by decide +kernel)) ggX6_divisions_X6_divideByPoint
theorem dX6_divisions_0 : decode cX6_divisions 0 = .ok (.aload_n 0, 1) := by decide +kernel
theorem dX6_divisions_1 : decode cX6_divisions 1 = .ok (.getfield 14, 3) := by decide +kernel
theorem dX6_divisions_4 : decode cX6_divisions 4 = .ok (.iload_n 2, 1) := by decide +kernel
theorem dX6_divisions_5 : decode cX6_divisions 5 = .ok (.aload_n 0, 1) := by decide +kernel
theorem dX6_divisions_6 : decode cX6_divisions 6 = .ok (.getfield 57, 3) := by decide +kernel
theorem dX6_divisions_9 : decode cX6_divisions 9 = .ok (.invokevirtual 147, 3) := by decide +kernel
theorem dX6_divisions_12 : decode cX6_divisions 12 = .ok (.iconst 0, 1) := by decide +kernel
theorem dX6_divisions_13 : decode cX6_divisions 13 = .ok (.istore 4, 2) := by decide +kernel
theorem dX6_divisions_15 : decode cX6_divisions 15 = .ok (.iload_n 1, 1) := by decide +kernel
theorem dX6_divisions_16 : decode cX6_divisions 16 = .ok (.istore 5, 2) := by decide +kernel
theorem dX6_divisions_18 : decode cX6_divisions 18 = .ok (.iload 5, 2) := by decide +kernel
theorem dX6_divisions_20 : decode cX6_divisions 20 = .ok (.ifCond .lt 49, 3) := by decide +kernel
theorem dX6_divisions_23 : decode cX6_divisions 23 = .ok (.iload_n 3, 1) := by decide +kernel
theorem dX6_divisions_24 : decode cX6_divisions 24 = .ok (.aload_n 0, 1) := by decide +kernel
theorem dX6_divisions_25 : decode cX6_divisions 25 = .ok (.getfield 14, 3) := by decide +kernel
theorem dX6_divisions_28 : decode cX6_divisions 28 = .ok (.getfield 80, 3) := by decide +kernel
theorem dX6_divisions_31 : decode cX6_divisions 31 = .ok (.if_icmp .ne 12, 3) := by decide +kernel
theorem dX6_divisions_34 : decode cX6_divisions 34 = .ok (.aload_n 0, 1) := by decide +kernel
theorem dX6_divisions_35 : decode cX6_divisions 35 = .ok (.iload 5, 2) := by decide +kernel
theorem dX6_divisions_37 : decode cX6_divisions 37 = .ok (.invokevirtual 269, 3) := by decide +kernel
theorem dX6_divisions_40 : decode cX6_divisions 40 = .ok (.goto 10, 3) := by decide +kernel
theorem dX6_divisions_43 : decode cX6_divisions 43 = .ok (.aload_n 0, 1) := by decide +kernel
theorem dX6_divisions_44 : decode cX6_divisions 44 = .ok (.iload 5, 2) := by decide +kernel
theorem dX6_divisions_46 : decode cX6_divisions 46 = .ok (.iload_n 3, 1) := by decide +kernel
theorem dX6_divisions_47 : decode cX6_divisions 47 = .ok (.invokevirtual 272, 3) := by decide +kernel
theorem dX6_divisions_50 : decode cX6_divisions 50 = .ok (.istore 6, 2) := by decide +kernel
theorem dX6_divisions_52 : decode cX6_divisions 52 = .ok (.iload 6, 2) := by decide +kernel
theorem dX6_divisions_54 : decode cX6_divisions 54 = .ok (.ifCond .ne 6, 3) := by decide +kernel
theorem dX6_divisions_57 : decode cX6_divisions 57 = .ok (.iload 4, 2) := by decide +kernel
theorem dX6_divisions_59 : decode cX6_divisions 59 = .ok (.ireturn, 1) := by decide +kernel
theorem dX6_divisions_60 : decode cX6_divisions 60 = .ok (.iinc 4 1, 3) := by decide +kernel
theorem dX6_divisions_63 : decode cX6_divisions 63 = .ok (.iinc 5 (-1), 3) := by decide +kernel
theorem dX6_divisions_66 : decode cX6_divisions 66 = .ok (.goto (-48), 3) := by decide +kernel
theorem dX6_divisions_69 : decode cX6_divisions 69 = .ok (.iload 4, 2) := by decide +kernel
theorem dX6_divisions_71 : decode cX6_divisions 71 = .ok (.ireturn, 1) := by decide +kernel
set_option maxRecDepth 20000 in
theorem ggX6_divideByY_X6_read : GoodIn wsX6_divideByY wsX6_read := goodIn_r _ [5] (by decide +kernel) (by decide +kernel)
set_option maxRecDepth 20000 in
theorem gX6_divideByY_X6_read : GoodIn wsX6_divideByY (va_wsS RX6 114 yX6_read wsX6_read) := goodIn_app (goodIn_of _ (by decide +kernel)) ggX6_divideByY_X6_read
set_option maxRecDepth 20000 in
theorem ggX6_divideByY_X6_write : GoodIn wsX6_divideByY wsX6_write := goodIn_r _ [8] (by decide +kernel) (by decide +kernel)
set_option maxRecDepth 20000 in
theorem gX6_divideByY_X6_write : GoodIn wsX6_divideByY (va_wsS RX6 107 yX6_write wsX6_write) := goodIn_app (goodIn_of _ (by decide +kernel)) ggX6_divideByY_X6_write
theorem dX6_divideByY_0 : decode cX6_divideByY 0 = .ok (.aload_n 0, 1) := by decide +kernel
theorem dX6_divideByY_1 : decode cX6_divideByY 1 = .ok (.getfield 57, 3) := by decide +kernel
theorem dX6_divideByY_4 : decode cX6_divideByY 4 = .ok (.iconst 0, 1) := by decide +kernel
theorem dX6_divideByY_5 : decode cX6_divideByY 5 = .ok (.invokestatic 114, 3) := by decide +kernel
theorem dX6_divideByY_8 : decode cX6_divideByY 8 = .ok (.ifCond .eq 5, 3) := by decide +kernel
theorem dX6_divideByY_11 : decode cX6_divideByY 11 = .ok (.iconst 0, 1) := by decide +kernel
theorem dX6_divideByY_12 : decode cX6_divideByY 12 = .ok (.ireturn, 1) := by decide +kernel
theorem dX6_divideByY_13 : decode cX6_divideByY 13 = .ok (.iconst 0, 1) := by decide +kernel
theorem dX6_divideByY_14 : decode cX6_divideByY 14 = .ok (.istore_n 2, 1) := by decide +kernel
theorem dX6_divideByY_15 : decode cX6_divideByY 15 = .ok (.iload_n 2, 1) := by decide +kernel
theorem dX6_divideByY_16 : decode cX6_divideByY 16 = .ok (.iload_n 1, 1) := by decide +kernel
theorem dX6_divideByY_17 : decode cX6_divideByY 17 = .ok (.if_icmp .ge 27, 3) := by decide +kernel
theorem dX6_divideByY_20 : decode cX6_divideByY 20 = .ok (.aload_n 0, 1) := by decide +kernel
theorem dX6_divideByY_21 : decode cX6_divideByY 21 = .ok (.getfield 57, 3) := by decide +kernel
theorem dX6_divideByY_24 : decode cX6_divideByY 24 = .ok (.iload_n 2, 1) := by decide +kernel
theorem dX6_divideByY_25 : decode cX6_divideByY 25 = .ok (.aload_n 0, 1) := by decide +kernel
theorem dX6_divideByY_26 : decode cX6_divideByY 26 = .ok (.getfield 57, 3) := by decide +kernel
theorem dX6_divideByY_29 : decode cX6_divideByY 29 = .ok (.iload_n 2, 1) := by decide +kernel
theorem dX6_divideByY_30 : decode cX6_divideByY 30 = .ok (.iconst 1, 1) := by decide +kernel
theorem dX6_divideByY_31 : decode cX6_divideByY 31 = .ok (.iadd, 1) := by decide +kernel
theorem dX6_divideByY_32 : decode cX6_divideByY 32 = .ok (.invokestatic 114, 3) := by decide +kernel
theorem dX6_divideByY_35 : decode cX6_divideByY 35 = .ok (.invokestatic 107, 3) := by decide +kernel
theorem dX6_divideByY_38 : decode cX6_divideByY 38 = .ok (.iinc 2 1, 3) := by decide +kernel
theorem dX6_divideByY_41 : decode cX6_divideByY 41 = .ok (.goto (-26), 3) := by decide +kernel
theorem dX6_divideByY_44 : decode cX6_divideByY 44 = .ok (.iconst 1, 1) := by decide +kernel
theorem dX6_divideByY_45 : decode cX6_divideByY 45 = .ok (.ireturn, 1) := by decide +kernel
set_option maxRecDepth 20000 in
theorem ggX6_divideByPoint_X6_read : GoodIn wsX6_divideByPoint wsX6_read := goodIn_r _ [6] (by decide +kernel) (by decide +kernel)
set_option maxRecDepth 20000 in
theorem gX6_divideByPoint_X6_read : GoodIn wsX6_divideByPoint (va_wsS RX6 114 yX6_read wsX6_read) := goodIn_app (goodIn_of _ (by decide +kernel)) ggX6_divideByPoint_X6_read
set_option maxRecDepth 20000 in
theorem ggX6_divideByPoint_X2_rest : GoodIn wsX6_divideByPoint wsX2_rest := goodIn_r _ [11, 12, 13, 14, 15, 16, 32] (by decide +kernel) (by decide +kernel)
set_option maxRecDepth 20000 in
theorem gX6_divideByPoint_X2_rest : GoodIn wsX6_divideByPoint (wsV RX6 154 RX2 yX2_rest wsX2_rest) := goodIn_app (goodIn_of _ (by decide +kernel)) ggX6_divideByPoint_X2_rest
set_option maxRecDepth 20000 in
theorem ggX6_divideByPoint_X6_write : GoodIn wsX6_divideByPoint wsX6_write := goodIn_r _ [19] (by decide +kernel) (by decide +kernel)
set_option maxRecDepth 20000 in
theorem gX6_divideByPoint_X6_write : GoodIn wsX6_divideByPoint (va_wsS RX6 107 yX6_write wsX6_write) := goodIn_app (goodIn_of _ (by decide +kernel)) ggX6_divideByPoint_X6_write
theorem dX6_divideByPoint_0 : decode cX6_divideByPoint 0 = .ok (.iconst 0, 1) := by decide +kernel
theorem dX6_divideByPoint_1 : decode cX6_divideByPoint 1 = .ok (.istore_n 3, 1) := by decide +kernel
theorem dX6_divideByPoint_2 : decode cX6_divideByPoint 2 = .ok (.iconst 0, 1) := by decide +kernel
theorem dX6_divideByPoint_3 : decode cX6_divideByPoint 3 = .ok (.istore 4, 2) := by decide +kernel
theorem dX6_divideByPoint_5 : decode cX6_divideByPoint 5 = .ok (.iload 4, 2) := by decide +kernel
theorem dX6_divideByPoint_7 : decode cX6_divideByPoint 7 = .ok (.iload_n 1, 1) := by decide +kernel
theorem dX6_divideByPoint_8 : decode cX6_divideByPoint 8 = .ok (.if_icmp .gt 40, 3) := by decide +kernel
theorem dX6_divideByPoint_11 : decode cX6_divideByPoint 11 = .ok (.aload_n 0, 1) := by decide +kernel
theorem dX6_divideByPoint_12 : decode cX6_divideByPoint 12 = .ok (.getfield 14, 3) := by decide +kernel
theorem dX6_divideByPoint_15 : decode cX6_divideByPoint 15 = .ok (.aload_n 0, 1) := by decide +kernel
theorem dX6_divideByPoint_16 : decode cX6_divideByPoint 16 = .ok (.getfield 57, 3) := by decide +kernel
theorem dX6_divideByPoint_19 : decode cX6_divideByPoint 19 = .ok (.iload 4, 2) := by decide +kernel
theorem dX6_divideByPoint_21 : decode cX6_divideByPoint 21 = .ok (.invokestatic 114, 3) := by decide +kernel
theorem dX6_divideByPoint_24 : decode cX6_divideByPoint 24 = .ok (.iload_n 2, 1) := by decide +kernel
theorem dX6_divideByPoint_25 : decode cX6_divideByPoint 25 = .ok (.iload_n 3, 1) := by decide +kernel
theorem dX6_divideByPoint_26 : decode cX6_divideByPoint 26 = .ok (.imul, 1) := by decide +kernel
theorem dX6_divideByPoint_27 : decode cX6_divideByPoint 27 = .ok (.iadd, 1) := by decide +kernel
theorem dX6_divideByPoint_28 : decode cX6_divideByPoint 28 = .ok (.invokevirtual 154, 3) := by decide +kernel
theorem dX6_divideByPoint_31 : decode cX6_divideByPoint 31 = .ok (.istore_n 3, 1) := by decide +kernel
theorem dX6_divideByPoint_32 : decode cX6_divideByPoint 32 = .ok (.aload_n 0, 1) := by decide +kernel
theorem dX6_divideByPoint_33 : decode cX6_divideByPoint 33 = .ok (.getfield 57, 3) := by decide +kernel
theorem dX6_divideByPoint_36 : decode cX6_divideByPoint 36 = .ok (.iload 4, 2) := by decide +kernel
theorem dX6_divideByPoint_38 : decode cX6_divideByPoint 38 = .ok (.iload_n 3, 1) := by decide +kernel
theorem dX6_divideByPoint_39 : decode cX6_divideByPoint 39 = .ok (.invokestatic 107, 3) := by decide +kernel
theorem dX6_divideByPoint_42 : decode cX6_divideByPoint 42 = .ok (.iinc 4 1, 3) := by decide +kernel
theorem dX6_divideByPoint_45 : decode cX6_divideByPoint 45 = .ok (.goto (-40), 3) := by decide +kernel
theorem dX6_divideByPoint_48 : decode cX6_divideByPoint 48 = .ok (.iload_n 3, 1) := by decide +kernel
theorem dX6_divideByPoint_49 : decode cX6_divideByPoint 49 = .ok (.ifCond .ne 7, 3) := by decide +kernel
theorem dX6_divideByPoint_52 : decode cX6_divideByPoint 52 = .ok (.iconst 1, 1) := by decide +kernel
theorem dX6_divideByPoint_53 : decode cX6_divideByPoint 53 = .ok (.goto 4, 3) := by decide +kernel
theorem dX6_divideByPoint_56 : decode cX6_divideByPoint 56 = .ok (.iconst 0, 1) := by decide +kernel
theorem dX6_divideByPoint_57 : decode cX6_divideByPoint 57 = .ok (.ireturn, 1) := by decide +kernel
set_option maxRecDepth 20000 in
theorem ggX6_transvectantCode_X6_read : GoodIn wsX6_transvectantCode wsX6_read := goodIn_r _ [9] (by decide +kernel) (by decide +kernel)
set_option maxRecDepth 20000 in
theorem gX6_transvectantCode_X6_read : GoodIn wsX6_transvectantCode (va_wsS RX6 114 yX6_read wsX6_read) := goodIn_app (goodIn_of _ (by decide +kernel)) ggX6_transvectantCode_X6_read
set_option maxRecDepth 20000 in
theorem ggX6_transvectantCode_J7_fill_53178 : GoodIn wsX6_transvectantCode wsJ7_fill_53178 := goodIn_r _ [13] (by decide +kernel) (by decide +kernel)
set_option maxRecDepth 20000 in
theorem gX6_transvectantCode_J7_fill_53178 : GoodIn wsX6_transvectantCode (va_wsS RX6 86 yJ7_fill_53178 wsJ7_fill_53178) := goodIn_app (goodIn_of _ (by decide +kernel)) ggX6_transvectantCode_J7_fill_53178
set_option maxRecDepth 20000 in
theorem ggX6_transvectantCode_X6_derive : GoodIn wsX6_transvectantCode wsX6_derive := goodIn_r _ [17, 1, 5, 18, 6, 7, 8, 9, 19, 20, 21, 22, 23, 24, 25, 26, 27, 28, 29, 30, 31, 32, 33, 34, 35, 36, 37, 38, 39, 52, 53, 54, 55, 56, 57, 58, 59, 60, 61, 62, 63, 64] (by decide +kernel) (by decide +kernel)
set_option maxRecDepth 20000 in
theorem gX6_transvectantCode_X6_derive : GoodIn wsX6_transvectantCode (wsV RX6 275 RX6 yX6_derive wsX6_derive) := goodIn_app (goodIn_of _ (by decide +kernel)) ggX6_transvectantCode_X6_derive
set_option maxRecDepth 20000 in
theorem ggX6_transvectantCode_X6_choose : GoodIn wsX6_transvectantCode wsX6_choose := goodIn_r _ [42, 43, 6, 7, 8, 9] (by decide +kernel) (by decide +kernel)
set_option maxRecDepth 20000 in
theorem gX6_transvectantCode_X6_choose : GoodIn wsX6_transvectantCode (va_wsS RX6 279 yX6_choose wsX6_choose) := goodIn_app (goodIn_of _ (by decide +kernel)) ggX6_transvectantCode_X6_choose
set_option maxRecDepth 20000 in
theorem ggX6_transvectantCode_X6_addProduct : GoodIn wsX6_transvectantCode wsX6_addProduct := goodIn_r _ [47, 3, 4, 2, 5, 6, 7, 8, 9, 38, 26, 27, 22, 28, 24, 29, 30, 31, 32, 39, 33, 34, 52, 53, 54, 55, 56, 57, 58, 59, 60, 61, 62, 63, 64] (by decide +kernel) (by decide +kernel)
set_option maxRecDepth 20000 in
theorem gX6_transvectantCode_X6_addProduct : GoodIn wsX6_transvectantCode (wsV RX6 282 RX6 yX6_addProduct wsX6_addProduct) := goodIn_app (goodIn_of _ (by decide +kernel)) ggX6_transvectantCode_X6_addProduct
set_option maxRecDepth 20000 in
theorem ggX6_transvectantCode_X2_code : GoodIn wsX6_transvectantCode wsX2_code := goodIn_r _ [51, 24, 7, 8, 9, 64] (by decide +kernel) (by decide +kernel)
set_option maxRecDepth 20000 in
theorem gX6_transvectantCode_X2_code : GoodIn wsX6_transvectantCode (wsV RX6 286 RX2 yX2_code wsX2_code) := goodIn_app (goodIn_of _ (by decide +kernel)) ggX6_transvectantCode_X2_code
theorem dX6_transvectantCode_0 : decode cX6_transvectantCode 0 = .ok (.aload_n 0, 1) := by decide +kernel
theorem dX6_transvectantCode_1 : decode cX6_transvectantCode 1 = .ok (.getfield 50, 3) := by decide +kernel
theorem dX6_transvectantCode_4 : decode cX6_transvectantCode 4 = .ok (.iload_n 1, 1) := by decide +kernel
theorem dX6_transvectantCode_5 : decode cX6_transvectantCode 5 = .ok (.invokestatic 114, 3) := by decide +kernel
theorem dX6_transvectantCode_8 : decode cX6_transvectantCode 8 = .ok (.iload_n 3, 1) := by decide +kernel
theorem dX6_transvectantCode_9 : decode cX6_transvectantCode 9 = .ok (.isub, 1) := by decide +kernel
theorem dX6_transvectantCode_10 : decode cX6_transvectantCode 10 = .ok (.istore 4, 2) := by decide +kernel
theorem dX6_transvectantCode_12 : decode cX6_transvectantCode 12 = .ok (.aload_n 0, 1) := by decide +kernel
theorem dX6_transvectantCode_13 : decode cX6_transvectantCode 13 = .ok (.getfield 50, 3) := by decide +kernel
theorem dX6_transvectantCode_16 : decode cX6_transvectantCode 16 = .ok (.iload_n 2, 1) := by decide +kernel
theorem dX6_transvectantCode_17 : decode cX6_transvectantCode 17 = .ok (.invokestatic 114, 3) := by decide +kernel
theorem dX6_transvectantCode_20 : decode cX6_transvectantCode 20 = .ok (.iload_n 3, 1) := by decide +kernel
theorem dX6_transvectantCode_21 : decode cX6_transvectantCode 21 = .ok (.isub, 1) := by decide +kernel
theorem dX6_transvectantCode_22 : decode cX6_transvectantCode 22 = .ok (.istore 5, 2) := by decide +kernel
theorem dX6_transvectantCode_24 : decode cX6_transvectantCode 24 = .ok (.aload_n 0, 1) := by decide +kernel
theorem dX6_transvectantCode_25 : decode cX6_transvectantCode 25 = .ok (.getfield 63, 3) := by decide +kernel
theorem dX6_transvectantCode_28 : decode cX6_transvectantCode 28 = .ok (.iconst 0, 1) := by decide +kernel
theorem dX6_transvectantCode_29 : decode cX6_transvectantCode 29 = .ok (.invokestatic 86, 3) := by decide +kernel
theorem dX6_transvectantCode_32 : decode cX6_transvectantCode 32 = .ok (.iconst 0, 1) := by decide +kernel
theorem dX6_transvectantCode_33 : decode cX6_transvectantCode 33 = .ok (.istore 6, 2) := by decide +kernel
theorem dX6_transvectantCode_35 : decode cX6_transvectantCode 35 = .ok (.iload 6, 2) := by decide +kernel
theorem dX6_transvectantCode_37 : decode cX6_transvectantCode 37 = .ok (.iload_n 3, 1) := by decide +kernel
theorem dX6_transvectantCode_38 : decode cX6_transvectantCode 38 = .ok (.if_icmp .gt 74, 3) := by decide +kernel
theorem dX6_transvectantCode_41 : decode cX6_transvectantCode 41 = .ok (.aload_n 0, 1) := by decide +kernel
theorem dX6_transvectantCode_42 : decode cX6_transvectantCode 42 = .ok (.iload_n 1, 1) := by decide +kernel
theorem dX6_transvectantCode_43 : decode cX6_transvectantCode 43 = .ok (.iload_n 3, 1) := by decide +kernel
theorem dX6_transvectantCode_44 : decode cX6_transvectantCode 44 = .ok (.iload 6, 2) := by decide +kernel
theorem dX6_transvectantCode_46 : decode cX6_transvectantCode 46 = .ok (.isub, 1) := by decide +kernel
theorem dX6_transvectantCode_47 : decode cX6_transvectantCode 47 = .ok (.iload 6, 2) := by decide +kernel
theorem dX6_transvectantCode_49 : decode cX6_transvectantCode 49 = .ok (.aload_n 0, 1) := by decide +kernel
theorem dX6_transvectantCode_50 : decode cX6_transvectantCode 50 = .ok (.getfield 57, 3) := by decide +kernel
theorem dX6_transvectantCode_53 : decode cX6_transvectantCode 53 = .ok (.invokevirtual 275, 3) := by decide +kernel
theorem dX6_transvectantCode_56 : decode cX6_transvectantCode 56 = .ok (.aload_n 0, 1) := by decide +kernel
theorem dX6_transvectantCode_57 : decode cX6_transvectantCode 57 = .ok (.iload_n 2, 1) := by decide +kernel
theorem dX6_transvectantCode_58 : decode cX6_transvectantCode 58 = .ok (.iload 6, 2) := by decide +kernel
theorem dX6_transvectantCode_60 : decode cX6_transvectantCode 60 = .ok (.iload_n 3, 1) := by decide +kernel
theorem dX6_transvectantCode_61 : decode cX6_transvectantCode 61 = .ok (.iload 6, 2) := by decide +kernel
theorem dX6_transvectantCode_63 : decode cX6_transvectantCode 63 = .ok (.isub, 1) := by decide +kernel
theorem dX6_transvectantCode_64 : decode cX6_transvectantCode 64 = .ok (.aload_n 0, 1) := by decide +kernel
theorem dX6_transvectantCode_65 : decode cX6_transvectantCode 65 = .ok (.getfield 60, 3) := by decide +kernel
theorem dX6_transvectantCode_68 : decode cX6_transvectantCode 68 = .ok (.invokevirtual 275, 3) := by decide +kernel
theorem dX6_transvectantCode_71 : decode cX6_transvectantCode 71 = .ok (.iload 6, 2) := by decide +kernel
theorem dX6_transvectantCode_73 : decode cX6_transvectantCode 73 = .ok (.iconst 2, 1) := by decide +kernel
theorem dX6_transvectantCode_74 : decode cX6_transvectantCode 74 = .ok (.irem, 1) := by decide +kernel
theorem dX6_transvectantCode_75 : decode cX6_transvectantCode 75 = .ok (.ifCond .ne 12, 3) := by decide +kernel
theorem dX6_transvectantCode_78 : decode cX6_transvectantCode 78 = .ok (.iload_n 3, 1) := by decide +kernel
theorem dX6_transvectantCode_79 : decode cX6_transvectantCode 79 = .ok (.iload 6, 2) := by decide +kernel
theorem dX6_transvectantCode_81 : decode cX6_transvectantCode 81 = .ok (.invokestatic 279, 3) := by decide +kernel
theorem dX6_transvectantCode_84 : decode cX6_transvectantCode 84 = .ok (.goto 10, 3) := by decide +kernel
theorem dX6_transvectantCode_87 : decode cX6_transvectantCode 87 = .ok (.iload_n 3, 1) := by decide +kernel
theorem dX6_transvectantCode_88 : decode cX6_transvectantCode 88 = .ok (.iload 6, 2) := by decide +kernel
theorem dX6_transvectantCode_90 : decode cX6_transvectantCode 90 = .ok (.invokestatic 279, 3) := by decide +kernel
theorem dX6_transvectantCode_93 : decode cX6_transvectantCode 93 = .ok (.ineg, 1) := by decide +kernel
theorem dX6_transvectantCode_94 : decode cX6_transvectantCode 94 = .ok (.istore 7, 2) := by decide +kernel
theorem dX6_transvectantCode_96 : decode cX6_transvectantCode 96 = .ok (.aload_n 0, 1) := by decide +kernel
theorem dX6_transvectantCode_97 : decode cX6_transvectantCode 97 = .ok (.iload 7, 2) := by decide +kernel
theorem dX6_transvectantCode_99 : decode cX6_transvectantCode 99 = .ok (.iload 4, 2) := by decide +kernel
theorem dX6_transvectantCode_101 : decode cX6_transvectantCode 101 = .ok (.iload 5, 2) := by decide +kernel
theorem dX6_transvectantCode_103 : decode cX6_transvectantCode 103 = .ok (.invokevirtual 282, 3) := by decide +kernel
theorem dX6_transvectantCode_106 : decode cX6_transvectantCode 106 = .ok (.iinc 6 1, 3) := by decide +kernel
theorem dX6_transvectantCode_109 : decode cX6_transvectantCode 109 = .ok (.goto (-74), 3) := by decide +kernel
theorem dX6_transvectantCode_112 : decode cX6_transvectantCode 112 = .ok (.aload_n 0, 1) := by decide +kernel
theorem dX6_transvectantCode_113 : decode cX6_transvectantCode 113 = .ok (.getfield 14, 3) := by decide +kernel
theorem dX6_transvectantCode_116 : decode cX6_transvectantCode 116 = .ok (.aload_n 0, 1) := by decide +kernel
theorem dX6_transvectantCode_117 : decode cX6_transvectantCode 117 = .ok (.getfield 63, 3) := by decide +kernel
theorem dX6_transvectantCode_120 : decode cX6_transvectantCode 120 = .ok (.iload 4, 2) := by decide +kernel
theorem dX6_transvectantCode_122 : decode cX6_transvectantCode 122 = .ok (.iload 5, 2) := by decide +kernel
theorem dX6_transvectantCode_124 : decode cX6_transvectantCode 124 = .ok (.iadd, 1) := by decide +kernel
theorem dX6_transvectantCode_125 : decode cX6_transvectantCode 125 = .ok (.iconst 1, 1) := by decide +kernel
theorem dX6_transvectantCode_126 : decode cX6_transvectantCode 126 = .ok (.iadd, 1) := by decide +kernel
theorem dX6_transvectantCode_127 : decode cX6_transvectantCode 127 = .ok (.invokevirtual 286, 3) := by decide +kernel
theorem dX6_transvectantCode_130 : decode cX6_transvectantCode 130 = .ok (.ireturn, 1) := by decide +kernel
set_option maxRecDepth 20000 in
theorem ggX6_derive_X6_read : GoodIn wsX6_derive wsX6_read := goodIn_r _ [7] (by decide +kernel) (by decide +kernel)
set_option maxRecDepth 20000 in
theorem gX6_derive_X6_read : GoodIn wsX6_derive (va_wsS RX6 114 yX6_read wsX6_read) := goodIn_app (goodIn_of _ (by decide +kernel)) ggX6_derive_X6_read
set_option maxRecDepth 20000 in
theorem ggX6_derive_X2_spell : GoodIn wsX6_derive wsX2_spell := goodIn_r _ [12, 13, 14, 15, 16, 11, 17, 18, 19, 20, 21, 22, 6, 23, 41] (by decide +kernel) (by decide +kernel)
set_option maxRecDepth 20000 in
theorem gX6_derive_X2_spell : GoodIn wsX6_derive (wsV RX6 147 RX2 yX2_spell wsX2_spell) := goodIn_app (goodIn_of _ (by decide +kernel)) ggX6_derive_X2_spell
set_option maxRecDepth 20000 in
theorem ggX6_derive_X6_falling : GoodIn wsX6_derive wsX6_falling := goodIn_r _ [26] (by decide +kernel) (by decide +kernel)
set_option maxRecDepth 20000 in
theorem gX6_derive_X6_falling : GoodIn wsX6_derive (va_wsS RX6 289 yX6_falling wsX6_falling) := goodIn_app (goodIn_of _ (by decide +kernel)) ggX6_derive_X6_falling
set_option maxRecDepth 20000 in
theorem ggX6_derive_X2_rest : GoodIn wsX6_derive wsX2_rest := goodIn_r _ [17, 13, 18, 19, 20, 21, 41] (by decide +kernel) (by decide +kernel)
set_option maxRecDepth 20000 in
theorem gX6_derive_X2_rest : GoodIn wsX6_derive (wsV RX6 154 RX2 yX2_rest wsX2_rest) := goodIn_app (goodIn_of _ (by decide +kernel)) ggX6_derive_X2_rest
set_option maxRecDepth 20000 in
theorem ggX6_derive_X6_write : GoodIn wsX6_derive wsX6_write := goodIn_r _ [23] (by decide +kernel) (by decide +kernel)
set_option maxRecDepth 20000 in
theorem gX6_derive_X6_write : GoodIn wsX6_derive (va_wsS RX6 107 yX6_write wsX6_write) := goodIn_app (goodIn_of _ (by decide +kernel)) ggX6_derive_X6_write
theorem dX6_derive_0 : decode cX6_derive 0 = .ok (.aload_n 0, 1) := by decide +kernel
theorem dX6_derive_1 : decode cX6_derive 1 = .ok (.getfield 50, 3) := by decide +kernel
theorem dX6_derive_4 : decode cX6_derive 4 = .ok (.iload_n 1, 1) := by decide +kernel
theorem dX6_derive_5 : decode cX6_derive 5 = .ok (.invokestatic 114, 3) := by decide +kernel
theorem dX6_derive_8 : decode cX6_derive 8 = .ok (.istore 5, 2) := by decide +kernel
theorem dX6_derive_10 : decode cX6_derive 10 = .ok (.aload_n 0, 1) := by decide +kernel
theorem dX6_derive_11 : decode cX6_derive 11 = .ok (.getfield 14, 3) := by decide +kernel
theorem dX6_derive_14 : decode cX6_derive 14 = .ok (.aload_n 0, 1) := by decide +kernel
theorem dX6_derive_15 : decode cX6_derive 15 = .ok (.getfield 54, 3) := by decide +kernel
theorem dX6_derive_18 : decode cX6_derive 18 = .ok (.iload_n 1, 1) := by decide +kernel
theorem dX6_derive_19 : decode cX6_derive 19 = .ok (.invokestatic 114, 3) := by decide +kernel
theorem dX6_derive_22 : decode cX6_derive 22 = .ok (.aload 4, 2) := by decide +kernel
theorem dX6_derive_24 : decode cX6_derive 24 = .ok (.invokevirtual 147, 3) := by decide +kernel
theorem dX6_derive_27 : decode cX6_derive 27 = .ok (.iload_n 3, 1) := by decide +kernel
theorem dX6_derive_28 : decode cX6_derive 28 = .ok (.istore 6, 2) := by decide +kernel
theorem dX6_derive_30 : decode cX6_derive 30 = .ok (.iload 6, 2) := by decide +kernel
theorem dX6_derive_32 : decode cX6_derive 32 = .ok (.iload 5, 2) := by decide +kernel
theorem dX6_derive_34 : decode cX6_derive 34 = .ok (.iload_n 2, 1) := by decide +kernel
theorem dX6_derive_35 : decode cX6_derive 35 = .ok (.isub, 1) := by decide +kernel
theorem dX6_derive_36 : decode cX6_derive 36 = .ok (.if_icmp .gt 53, 3) := by decide +kernel
theorem dX6_derive_39 : decode cX6_derive 39 = .ok (.iload 5, 2) := by decide +kernel
theorem dX6_derive_41 : decode cX6_derive 41 = .ok (.iload 6, 2) := by decide +kernel
theorem dX6_derive_43 : decode cX6_derive 43 = .ok (.isub, 1) := by decide +kernel
theorem dX6_derive_44 : decode cX6_derive 44 = .ok (.iload_n 2, 1) := by decide +kernel
theorem dX6_derive_45 : decode cX6_derive 45 = .ok (.invokestatic 289, 3) := by decide +kernel
theorem dX6_derive_48 : decode cX6_derive 48 = .ok (.iload 6, 2) := by decide +kernel
theorem dX6_derive_50 : decode cX6_derive 50 = .ok (.iload_n 3, 1) := by decide +kernel
theorem dX6_derive_51 : decode cX6_derive 51 = .ok (.invokestatic 289, 3) := by decide +kernel
theorem dX6_derive_54 : decode cX6_derive 54 = .ok (.imul, 1) := by decide +kernel
theorem dX6_derive_55 : decode cX6_derive 55 = .ok (.istore 7, 2) := by decide +kernel
theorem dX6_derive_57 : decode cX6_derive 57 = .ok (.aload 4, 2) := by decide +kernel
theorem dX6_derive_59 : decode cX6_derive 59 = .ok (.iload 6, 2) := by decide +kernel
theorem dX6_derive_61 : decode cX6_derive 61 = .ok (.iload_n 3, 1) := by decide +kernel
theorem dX6_derive_62 : decode cX6_derive 62 = .ok (.isub, 1) := by decide +kernel
theorem dX6_derive_63 : decode cX6_derive 63 = .ok (.aload_n 0, 1) := by decide +kernel
theorem dX6_derive_64 : decode cX6_derive 64 = .ok (.getfield 14, 3) := by decide +kernel
theorem dX6_derive_67 : decode cX6_derive 67 = .ok (.aload 4, 2) := by decide +kernel
theorem dX6_derive_69 : decode cX6_derive 69 = .ok (.iload 6, 2) := by decide +kernel
theorem dX6_derive_71 : decode cX6_derive 71 = .ok (.invokestatic 114, 3) := by decide +kernel
theorem dX6_derive_74 : decode cX6_derive 74 = .ok (.iload 7, 2) := by decide +kernel
theorem dX6_derive_76 : decode cX6_derive 76 = .ok (.imul, 1) := by decide +kernel
theorem dX6_derive_77 : decode cX6_derive 77 = .ok (.invokevirtual 154, 3) := by decide +kernel
theorem dX6_derive_80 : decode cX6_derive 80 = .ok (.invokestatic 107, 3) := by decide +kernel
theorem dX6_derive_83 : decode cX6_derive 83 = .ok (.iinc 6 1, 3) := by decide +kernel
theorem dX6_derive_86 : decode cX6_derive 86 = .ok (.goto (-56), 3) := by decide +kernel
theorem dX6_derive_89 : decode cX6_derive 89 = .ok (.return_, 1) := by decide +kernel
set_option maxRecDepth 20000 in
theorem ggX6_addProduct_X6_read : GoodIn wsX6_addProduct wsX6_read := goodIn_r _ [8] (by decide +kernel) (by decide +kernel)
set_option maxRecDepth 20000 in
theorem gX6_addProduct_X6_read : GoodIn wsX6_addProduct (va_wsS RX6 114 yX6_read wsX6_read) := goodIn_app (goodIn_of _ (by decide +kernel)) ggX6_addProduct_X6_read
set_option maxRecDepth 20000 in
theorem ggX6_addProduct_X2_rest : GoodIn wsX6_addProduct wsX2_rest := goodIn_r _ [13, 14, 15, 16, 17, 18, 34] (by decide +kernel) (by decide +kernel)
set_option maxRecDepth 20000 in
theorem gX6_addProduct_X2_rest : GoodIn wsX6_addProduct (wsV RX6 154 RX2 yX2_rest wsX2_rest) := goodIn_app (goodIn_of _ (by decide +kernel)) ggX6_addProduct_X2_rest
set_option maxRecDepth 20000 in
theorem ggX6_addProduct_X6_write : GoodIn wsX6_addProduct wsX6_write := goodIn_r _ [21] (by decide +kernel) (by decide +kernel)
set_option maxRecDepth 20000 in
theorem gX6_addProduct_X6_write : GoodIn wsX6_addProduct (va_wsS RX6 107 yX6_write wsX6_write) := goodIn_app (goodIn_of _ (by decide +kernel)) ggX6_addProduct_X6_write
theorem dX6_addProduct_0 : decode cX6_addProduct 0 = .ok (.iconst 0, 1) := by decide +kernel
theorem dX6_addProduct_1 : decode cX6_addProduct 1 = .ok (.istore 4, 2) := by decide +kernel
theorem dX6_addProduct_3 : decode cX6_addProduct 3 = .ok (.iload 4, 2) := by decide +kernel
theorem dX6_addProduct_5 : decode cX6_addProduct 5 = .ok (.iload_n 2, 1) := by decide +kernel
theorem dX6_addProduct_6 : decode cX6_addProduct 6 = .ok (.if_icmp .gt 81, 3) := by decide +kernel
theorem dX6_addProduct_9 : decode cX6_addProduct 9 = .ok (.iconst 0, 1) := by decide +kernel
theorem dX6_addProduct_10 : decode cX6_addProduct 10 = .ok (.istore 5, 2) := by decide +kernel
theorem dX6_addProduct_12 : decode cX6_addProduct 12 = .ok (.iload 5, 2) := by decide +kernel
theorem dX6_addProduct_14 : decode cX6_addProduct 14 = .ok (.iload_n 3, 1) := by decide +kernel
theorem dX6_addProduct_15 : decode cX6_addProduct 15 = .ok (.if_icmp .gt 66, 3) := by decide +kernel
theorem dX6_addProduct_18 : decode cX6_addProduct 18 = .ok (.iload_n 1, 1) := by decide +kernel
theorem dX6_addProduct_19 : decode cX6_addProduct 19 = .ok (.aload_n 0, 1) := by decide +kernel
theorem dX6_addProduct_20 : decode cX6_addProduct 20 = .ok (.getfield 57, 3) := by decide +kernel
theorem dX6_addProduct_23 : decode cX6_addProduct 23 = .ok (.iload 4, 2) := by decide +kernel
theorem dX6_addProduct_25 : decode cX6_addProduct 25 = .ok (.invokestatic 114, 3) := by decide +kernel
theorem dX6_addProduct_28 : decode cX6_addProduct 28 = .ok (.imul, 1) := by decide +kernel
theorem dX6_addProduct_29 : decode cX6_addProduct 29 = .ok (.aload_n 0, 1) := by decide +kernel
theorem dX6_addProduct_30 : decode cX6_addProduct 30 = .ok (.getfield 60, 3) := by decide +kernel
theorem dX6_addProduct_33 : decode cX6_addProduct 33 = .ok (.iload 5, 2) := by decide +kernel
theorem dX6_addProduct_35 : decode cX6_addProduct 35 = .ok (.invokestatic 114, 3) := by decide +kernel
theorem dX6_addProduct_38 : decode cX6_addProduct 38 = .ok (.imul, 1) := by decide +kernel
theorem dX6_addProduct_39 : decode cX6_addProduct 39 = .ok (.istore 6, 2) := by decide +kernel
theorem dX6_addProduct_41 : decode cX6_addProduct 41 = .ok (.aload_n 0, 1) := by decide +kernel
theorem dX6_addProduct_42 : decode cX6_addProduct 42 = .ok (.getfield 63, 3) := by decide +kernel
theorem dX6_addProduct_45 : decode cX6_addProduct 45 = .ok (.iload 4, 2) := by decide +kernel
theorem dX6_addProduct_47 : decode cX6_addProduct 47 = .ok (.iload 5, 2) := by decide +kernel
theorem dX6_addProduct_49 : decode cX6_addProduct 49 = .ok (.iadd, 1) := by decide +kernel
theorem dX6_addProduct_50 : decode cX6_addProduct 50 = .ok (.aload_n 0, 1) := by decide +kernel
theorem dX6_addProduct_51 : decode cX6_addProduct 51 = .ok (.getfield 14, 3) := by decide +kernel
theorem dX6_addProduct_54 : decode cX6_addProduct 54 = .ok (.aload_n 0, 1) := by decide +kernel
theorem dX6_addProduct_55 : decode cX6_addProduct 55 = .ok (.getfield 63, 3) := by decide +kernel
theorem dX6_addProduct_58 : decode cX6_addProduct 58 = .ok (.iload 4, 2) := by decide +kernel
theorem dX6_addProduct_60 : decode cX6_addProduct 60 = .ok (.iload 5, 2) := by decide +kernel
theorem dX6_addProduct_62 : decode cX6_addProduct 62 = .ok (.iadd, 1) := by decide +kernel
theorem dX6_addProduct_63 : decode cX6_addProduct 63 = .ok (.invokestatic 114, 3) := by decide +kernel
theorem dX6_addProduct_66 : decode cX6_addProduct 66 = .ok (.iload 6, 2) := by decide +kernel
theorem dX6_addProduct_68 : decode cX6_addProduct 68 = .ok (.iadd, 1) := by decide +kernel
theorem dX6_addProduct_69 : decode cX6_addProduct 69 = .ok (.invokevirtual 154, 3) := by decide +kernel
theorem dX6_addProduct_72 : decode cX6_addProduct 72 = .ok (.invokestatic 107, 3) := by decide +kernel
theorem dX6_addProduct_75 : decode cX6_addProduct 75 = .ok (.iinc 5 1, 3) := by decide +kernel
theorem dX6_addProduct_78 : decode cX6_addProduct 78 = .ok (.goto (-66), 3) := by decide +kernel
theorem dX6_addProduct_81 : decode cX6_addProduct 81 = .ok (.iinc 4 1, 3) := by decide +kernel
theorem dX6_addProduct_84 : decode cX6_addProduct 84 = .ok (.goto (-81), 3) := by decide +kernel
theorem dX6_addProduct_87 : decode cX6_addProduct 87 = .ok (.return_, 1) := by decide +kernel
theorem dX6_falling_0 : decode cX6_falling 0 = .ok (.iconst 1, 1) := by decide +kernel
theorem dX6_falling_1 : decode cX6_falling 1 = .ok (.istore_n 2, 1) := by decide +kernel
theorem dX6_falling_2 : decode cX6_falling 2 = .ok (.iconst 0, 1) := by decide +kernel
theorem dX6_falling_3 : decode cX6_falling 3 = .ok (.istore_n 3, 1) := by decide +kernel
theorem dX6_falling_4 : decode cX6_falling 4 = .ok (.iload_n 3, 1) := by decide +kernel
theorem dX6_falling_5 : decode cX6_falling 5 = .ok (.iload_n 1, 1) := by decide +kernel
theorem dX6_falling_6 : decode cX6_falling 6 = .ok (.if_icmp .ge 15, 3) := by decide +kernel
theorem dX6_falling_9 : decode cX6_falling 9 = .ok (.iload_n 2, 1) := by decide +kernel
theorem dX6_falling_10 : decode cX6_falling 10 = .ok (.iload_n 0, 1) := by decide +kernel
theorem dX6_falling_11 : decode cX6_falling 11 = .ok (.iload_n 3, 1) := by decide +kernel
theorem dX6_falling_12 : decode cX6_falling 12 = .ok (.isub, 1) := by decide +kernel
theorem dX6_falling_13 : decode cX6_falling 13 = .ok (.imul, 1) := by decide +kernel
theorem dX6_falling_14 : decode cX6_falling 14 = .ok (.istore_n 2, 1) := by decide +kernel
theorem dX6_falling_15 : decode cX6_falling 15 = .ok (.iinc 3 1, 3) := by decide +kernel
theorem dX6_falling_18 : decode cX6_falling 18 = .ok (.goto (-14), 3) := by decide +kernel
theorem dX6_falling_21 : decode cX6_falling 21 = .ok (.iload_n 2, 1) := by decide +kernel
theorem dX6_falling_22 : decode cX6_falling 22 = .ok (.ireturn, 1) := by decide +kernel
set_option maxRecDepth 20000 in
theorem ggX6_choose_X6_read : GoodIn wsX6_choose wsX6_read := goodIn_r _ [5] (by decide +kernel) (by decide +kernel)
set_option maxRecDepth 20000 in
theorem gX6_choose_X6_read : GoodIn wsX6_choose (va_wsS RX6 114 yX6_read wsX6_read) := goodIn_app (goodIn_of _ (by decide +kernel)) ggX6_choose_X6_read
theorem dX6_choose_0 : decode cX6_choose 0 = .ok (.getstatic 292, 3) := by decide +kernel
theorem dX6_choose_3 : decode cX6_choose 3 = .ok (.iload_n 0, 1) := by decide +kernel
theorem dX6_choose_4 : decode cX6_choose 4 = .ok (.iconst 4, 1) := by decide +kernel
theorem dX6_choose_5 : decode cX6_choose 5 = .ok (.imul, 1) := by decide +kernel
theorem dX6_choose_6 : decode cX6_choose 6 = .ok (.iload_n 1, 1) := by decide +kernel
theorem dX6_choose_7 : decode cX6_choose 7 = .ok (.iadd, 1) := by decide +kernel
theorem dX6_choose_8 : decode cX6_choose 8 = .ok (.invokestatic 114, 3) := by decide +kernel
theorem dX6_choose_11 : decode cX6_choose 11 = .ok (.ireturn, 1) := by decide +kernel
theorem dX6_countValues_0 : decode cX6_countValues 0 = .ok (.iload_n 0, 1) := by decide +kernel
theorem dX6_countValues_1 : decode cX6_countValues 1 = .ok (.tableswitch 31 2 4 #[27, 27, 29], 27) := by decide +kernel
theorem dX6_countValues_28 : decode cX6_countValues 28 = .ok (.iconst 1, 1) := by decide +kernel
theorem dX6_countValues_29 : decode cX6_countValues 29 = .ok (.ireturn, 1) := by decide +kernel
theorem dX6_countValues_30 : decode cX6_countValues 30 = .ok (.iconst 2, 1) := by decide +kernel
theorem dX6_countValues_31 : decode cX6_countValues 31 = .ok (.ireturn, 1) := by decide +kernel
theorem dX6_countValues_32 : decode cX6_countValues 32 = .ok (.iconst 0, 1) := by decide +kernel
theorem dX6_countValues_33 : decode cX6_countValues 33 = .ok (.ireturn, 1) := by decide +kernel
theorem dX6_weightOf_0 : decode cX6_weightOf 0 = .ok (.iload_n 0, 1) := by decide +kernel
theorem dX6_weightOf_1 : decode cX6_weightOf 1 = .ok (.lookupswitch 40 #[(2, 27), (4, 29)], 27) := by decide +kernel
theorem dX6_weightOf_28 : decode cX6_weightOf 28 = .ok (.iconst 2, 1) := by decide +kernel
theorem dX6_weightOf_29 : decode cX6_weightOf 29 = .ok (.ireturn, 1) := by decide +kernel
theorem dX6_weightOf_30 : decode cX6_weightOf 30 = .ok (.iload_n 1, 1) := by decide +kernel
theorem dX6_weightOf_31 : decode cX6_weightOf 31 = .ok (.ifCond .ne 7, 3) := by decide +kernel
theorem dX6_weightOf_34 : decode cX6_weightOf 34 = .ok (.iconst 4, 1) := by decide +kernel
theorem dX6_weightOf_35 : decode cX6_weightOf 35 = .ok (.goto 5, 3) := by decide +kernel
theorem dX6_weightOf_38 : decode cX6_weightOf 38 = .ok (.bipush 6, 2) := by decide +kernel
theorem dX6_weightOf_40 : decode cX6_weightOf 40 = .ok (.ireturn, 1) := by decide +kernel
theorem dX6_weightOf_41 : decode cX6_weightOf 41 = .ok (.bipush 6, 2) := by decide +kernel
theorem dX6_weightOf_43 : decode cX6_weightOf 43 = .ok (.ireturn, 1) := by decide +kernel
set_option maxRecDepth 20000 in
theorem ggX6_valueOf_X2_spell : GoodIn wsX6_valueOf wsX2_spell := goodIn_r _ [7, 8, 9, 10, 11, 6, 12, 13, 14, 15, 16, 17, 18, 19, 36] (by decide +kernel) (by decide +kernel)
set_option maxRecDepth 20000 in
theorem gX6_valueOf_X2_spell : GoodIn wsX6_valueOf (wsV RX6 147 RX2 yX2_spell wsX2_spell) := goodIn_app (goodIn_of _ (by decide +kernel)) ggX6_valueOf_X2_spell
set_option maxRecDepth 20000 in
theorem ggX6_valueOf_X6_read : GoodIn wsX6_valueOf wsX6_read := goodIn_r _ [22] (by decide +kernel) (by decide +kernel)
set_option maxRecDepth 20000 in
theorem gX6_valueOf_X6_read : GoodIn wsX6_valueOf (va_wsS RX6 114 yX6_read wsX6_read) := goodIn_app (goodIn_of _ (by decide +kernel)) ggX6_valueOf_X6_read
set_option maxRecDepth 20000 in
theorem ggX6_valueOf_X2_rest : GoodIn wsX6_valueOf wsX2_rest := goodIn_r _ [12, 8, 13, 14, 15, 16, 36] (by decide +kernel) (by decide +kernel)
set_option maxRecDepth 20000 in
theorem gX6_valueOf_X2_rest : GoodIn wsX6_valueOf (wsV RX6 154 RX2 yX2_rest wsX2_rest) := goodIn_app (goodIn_of _ (by decide +kernel)) ggX6_valueOf_X2_rest
theorem dX6_valueOf_0 : decode cX6_valueOf 0 = .ok (.aload_n 0, 1) := by decide +kernel
theorem dX6_valueOf_1 : decode cX6_valueOf 1 = .ok (.getfield 14, 3) := by decide +kernel
theorem dX6_valueOf_4 : decode cX6_valueOf 4 = .ok (.iload_n 2, 1) := by decide +kernel
theorem dX6_valueOf_5 : decode cX6_valueOf 5 = .ok (.aload_n 0, 1) := by decide +kernel
theorem dX6_valueOf_6 : decode cX6_valueOf 6 = .ok (.getfield 57, 3) := by decide +kernel
theorem dX6_valueOf_9 : decode cX6_valueOf 9 = .ok (.invokevirtual 147, 3) := by decide +kernel
theorem dX6_valueOf_12 : decode cX6_valueOf 12 = .ok (.aload_n 0, 1) := by decide +kernel
theorem dX6_valueOf_13 : decode cX6_valueOf 13 = .ok (.getfield 57, 3) := by decide +kernel
theorem dX6_valueOf_16 : decode cX6_valueOf 16 = .ok (.iconst 0, 1) := by decide +kernel
theorem dX6_valueOf_17 : decode cX6_valueOf 17 = .ok (.invokestatic 114, 3) := by decide +kernel
theorem dX6_valueOf_20 : decode cX6_valueOf 20 = .ok (.istore 4, 2) := by decide +kernel
theorem dX6_valueOf_22 : decode cX6_valueOf 22 = .ok (.aload_n 0, 1) := by decide +kernel
theorem dX6_valueOf_23 : decode cX6_valueOf 23 = .ok (.getfield 57, 3) := by decide +kernel
theorem dX6_valueOf_26 : decode cX6_valueOf 26 = .ok (.iconst 1, 1) := by decide +kernel
theorem dX6_valueOf_27 : decode cX6_valueOf 27 = .ok (.invokestatic 114, 3) := by decide +kernel
theorem dX6_valueOf_30 : decode cX6_valueOf 30 = .ok (.istore 5, 2) := by decide +kernel
theorem dX6_valueOf_32 : decode cX6_valueOf 32 = .ok (.aload_n 0, 1) := by decide +kernel
theorem dX6_valueOf_33 : decode cX6_valueOf 33 = .ok (.getfield 57, 3) := by decide +kernel
theorem dX6_valueOf_36 : decode cX6_valueOf 36 = .ok (.iconst 2, 1) := by decide +kernel
theorem dX6_valueOf_37 : decode cX6_valueOf 37 = .ok (.invokestatic 114, 3) := by decide +kernel
theorem dX6_valueOf_40 : decode cX6_valueOf 40 = .ok (.istore 6, 2) := by decide +kernel
theorem dX6_valueOf_42 : decode cX6_valueOf 42 = .ok (.aload_n 0, 1) := by decide +kernel
theorem dX6_valueOf_43 : decode cX6_valueOf 43 = .ok (.getfield 57, 3) := by decide +kernel
theorem dX6_valueOf_46 : decode cX6_valueOf 46 = .ok (.iconst 3, 1) := by decide +kernel
theorem dX6_valueOf_47 : decode cX6_valueOf 47 = .ok (.invokestatic 114, 3) := by decide +kernel
theorem dX6_valueOf_50 : decode cX6_valueOf 50 = .ok (.istore 7, 2) := by decide +kernel
theorem dX6_valueOf_52 : decode cX6_valueOf 52 = .ok (.aload_n 0, 1) := by decide +kernel
theorem dX6_valueOf_53 : decode cX6_valueOf 53 = .ok (.getfield 57, 3) := by decide +kernel
theorem dX6_valueOf_56 : decode cX6_valueOf 56 = .ok (.iconst 4, 1) := by decide +kernel
theorem dX6_valueOf_57 : decode cX6_valueOf 57 = .ok (.invokestatic 114, 3) := by decide +kernel
theorem dX6_valueOf_60 : decode cX6_valueOf 60 = .ok (.istore 8, 2) := by decide +kernel
theorem dX6_valueOf_62 : decode cX6_valueOf 62 = .ok (.iload_n 1, 1) := by decide +kernel
theorem dX6_valueOf_63 : decode cX6_valueOf 63 = .ok (.tableswitch 225 2 4 #[25, 46, 123], 25) := by decide +kernel
theorem dX6_valueOf_88 : decode cX6_valueOf 88 = .ok (.aload_n 0, 1) := by decide +kernel
theorem dX6_valueOf_89 : decode cX6_valueOf 89 = .ok (.getfield 14, 3) := by decide +kernel
theorem dX6_valueOf_92 : decode cX6_valueOf 92 = .ok (.iload 5, 2) := by decide +kernel
theorem dX6_valueOf_94 : decode cX6_valueOf 94 = .ok (.iload 5, 2) := by decide +kernel
theorem dX6_valueOf_96 : decode cX6_valueOf 96 = .ok (.imul, 1) := by decide +kernel
theorem dX6_valueOf_97 : decode cX6_valueOf 97 = .ok (.iconst 4, 1) := by decide +kernel
theorem dX6_valueOf_98 : decode cX6_valueOf 98 = .ok (.iload 4, 2) := by decide +kernel
theorem dX6_valueOf_100 : decode cX6_valueOf 100 = .ok (.imul, 1) := by decide +kernel
theorem dX6_valueOf_101 : decode cX6_valueOf 101 = .ok (.iload 6, 2) := by decide +kernel
theorem dX6_valueOf_103 : decode cX6_valueOf 103 = .ok (.imul, 1) := by decide +kernel
theorem dX6_valueOf_104 : decode cX6_valueOf 104 = .ok (.isub, 1) := by decide +kernel
theorem dX6_valueOf_105 : decode cX6_valueOf 105 = .ok (.invokevirtual 154, 3) := by decide +kernel
theorem dX6_valueOf_108 : decode cX6_valueOf 108 = .ok (.ireturn, 1) := by decide +kernel
theorem dX6_valueOf_109 : decode cX6_valueOf 109 = .ok (.aload_n 0, 1) := by decide +kernel
theorem dX6_valueOf_110 : decode cX6_valueOf 110 = .ok (.getfield 14, 3) := by decide +kernel
theorem dX6_valueOf_113 : decode cX6_valueOf 113 = .ok (.iload 5, 2) := by decide +kernel
theorem dX6_valueOf_115 : decode cX6_valueOf 115 = .ok (.iload 5, 2) := by decide +kernel
theorem dX6_valueOf_117 : decode cX6_valueOf 117 = .ok (.imul, 1) := by decide +kernel
theorem dX6_valueOf_118 : decode cX6_valueOf 118 = .ok (.iload 6, 2) := by decide +kernel
theorem dX6_valueOf_120 : decode cX6_valueOf 120 = .ok (.imul, 1) := by decide +kernel
theorem dX6_valueOf_121 : decode cX6_valueOf 121 = .ok (.iload 6, 2) := by decide +kernel
theorem dX6_valueOf_123 : decode cX6_valueOf 123 = .ok (.imul, 1) := by decide +kernel
theorem dX6_valueOf_124 : decode cX6_valueOf 124 = .ok (.iconst 4, 1) := by decide +kernel
theorem dX6_valueOf_125 : decode cX6_valueOf 125 = .ok (.iload 4, 2) := by decide +kernel
theorem dX6_valueOf_127 : decode cX6_valueOf 127 = .ok (.imul, 1) := by decide +kernel
theorem dX6_valueOf_128 : decode cX6_valueOf 128 = .ok (.iload 6, 2) := by decide +kernel
theorem dX6_valueOf_130 : decode cX6_valueOf 130 = .ok (.imul, 1) := by decide +kernel
theorem dX6_valueOf_131 : decode cX6_valueOf 131 = .ok (.iload 6, 2) := by decide +kernel
theorem dX6_valueOf_133 : decode cX6_valueOf 133 = .ok (.imul, 1) := by decide +kernel
theorem dX6_valueOf_134 : decode cX6_valueOf 134 = .ok (.iload 6, 2) := by decide +kernel
theorem dX6_valueOf_136 : decode cX6_valueOf 136 = .ok (.imul, 1) := by decide +kernel
theorem dX6_valueOf_137 : decode cX6_valueOf 137 = .ok (.isub, 1) := by decide +kernel
theorem dX6_valueOf_138 : decode cX6_valueOf 138 = .ok (.iconst 4, 1) := by decide +kernel
theorem dX6_valueOf_139 : decode cX6_valueOf 139 = .ok (.iload 5, 2) := by decide +kernel
theorem dX6_valueOf_141 : decode cX6_valueOf 141 = .ok (.imul, 1) := by decide +kernel
theorem dX6_valueOf_142 : decode cX6_valueOf 142 = .ok (.iload 5, 2) := by decide +kernel
theorem dX6_valueOf_144 : decode cX6_valueOf 144 = .ok (.imul, 1) := by decide +kernel
theorem dX6_valueOf_145 : decode cX6_valueOf 145 = .ok (.iload 5, 2) := by decide +kernel
theorem dX6_valueOf_147 : decode cX6_valueOf 147 = .ok (.imul, 1) := by decide +kernel
theorem dX6_valueOf_148 : decode cX6_valueOf 148 = .ok (.iload 7, 2) := by decide +kernel
theorem dX6_valueOf_150 : decode cX6_valueOf 150 = .ok (.imul, 1) := by decide +kernel
theorem dX6_valueOf_151 : decode cX6_valueOf 151 = .ok (.isub, 1) := by decide +kernel
theorem dX6_valueOf_152 : decode cX6_valueOf 152 = .ok (.bipush 27, 2) := by decide +kernel
theorem dX6_valueOf_154 : decode cX6_valueOf 154 = .ok (.iload 4, 2) := by decide +kernel
theorem dX6_valueOf_156 : decode cX6_valueOf 156 = .ok (.imul, 1) := by decide +kernel
theorem dX6_valueOf_157 : decode cX6_valueOf 157 = .ok (.iload 4, 2) := by decide +kernel
theorem dX6_valueOf_159 : decode cX6_valueOf 159 = .ok (.imul, 1) := by decide +kernel
theorem dX6_valueOf_160 : decode cX6_valueOf 160 = .ok (.iload 7, 2) := by decide +kernel
theorem dX6_valueOf_162 : decode cX6_valueOf 162 = .ok (.imul, 1) := by decide +kernel
theorem dX6_valueOf_163 : decode cX6_valueOf 163 = .ok (.iload 7, 2) := by decide +kernel
theorem dX6_valueOf_165 : decode cX6_valueOf 165 = .ok (.imul, 1) := by decide +kernel
theorem dX6_valueOf_166 : decode cX6_valueOf 166 = .ok (.isub, 1) := by decide +kernel
theorem dX6_valueOf_167 : decode cX6_valueOf 167 = .ok (.bipush 18, 2) := by decide +kernel
theorem dX6_valueOf_169 : decode cX6_valueOf 169 = .ok (.iload 4, 2) := by decide +kernel
theorem dX6_valueOf_171 : decode cX6_valueOf 171 = .ok (.imul, 1) := by decide +kernel
theorem dX6_valueOf_172 : decode cX6_valueOf 172 = .ok (.iload 5, 2) := by decide +kernel
theorem dX6_valueOf_174 : decode cX6_valueOf 174 = .ok (.imul, 1) := by decide +kernel
theorem dX6_valueOf_175 : decode cX6_valueOf 175 = .ok (.iload 6, 2) := by decide +kernel
theorem dX6_valueOf_177 : decode cX6_valueOf 177 = .ok (.imul, 1) := by decide +kernel
theorem dX6_valueOf_178 : decode cX6_valueOf 178 = .ok (.iload 7, 2) := by decide +kernel
theorem dX6_valueOf_180 : decode cX6_valueOf 180 = .ok (.imul, 1) := by decide +kernel
theorem dX6_valueOf_181 : decode cX6_valueOf 181 = .ok (.iadd, 1) := by decide +kernel
theorem dX6_valueOf_182 : decode cX6_valueOf 182 = .ok (.invokevirtual 154, 3) := by decide +kernel
theorem dX6_valueOf_185 : decode cX6_valueOf 185 = .ok (.ireturn, 1) := by decide +kernel
theorem dX6_valueOf_186 : decode cX6_valueOf 186 = .ok (.iload_n 3, 1) := by decide +kernel
theorem dX6_valueOf_187 : decode cX6_valueOf 187 = .ok (.ifCond .ne 35, 3) := by decide +kernel
theorem dX6_valueOf_190 : decode cX6_valueOf 190 = .ok (.aload_n 0, 1) := by decide +kernel
theorem dX6_valueOf_191 : decode cX6_valueOf 191 = .ok (.getfield 14, 3) := by decide +kernel
theorem dX6_valueOf_194 : decode cX6_valueOf 194 = .ok (.bipush 12, 2) := by decide +kernel
theorem dX6_valueOf_196 : decode cX6_valueOf 196 = .ok (.iload 4, 2) := by decide +kernel
theorem dX6_valueOf_198 : decode cX6_valueOf 198 = .ok (.imul, 1) := by decide +kernel
theorem dX6_valueOf_199 : decode cX6_valueOf 199 = .ok (.iload 8, 2) := by decide +kernel
theorem dX6_valueOf_201 : decode cX6_valueOf 201 = .ok (.imul, 1) := by decide +kernel
theorem dX6_valueOf_202 : decode cX6_valueOf 202 = .ok (.iconst 3, 1) := by decide +kernel
theorem dX6_valueOf_203 : decode cX6_valueOf 203 = .ok (.iload 5, 2) := by decide +kernel
theorem dX6_valueOf_205 : decode cX6_valueOf 205 = .ok (.imul, 1) := by decide +kernel
theorem dX6_valueOf_206 : decode cX6_valueOf 206 = .ok (.iload 7, 2) := by decide +kernel
theorem dX6_valueOf_208 : decode cX6_valueOf 208 = .ok (.imul, 1) := by decide +kernel
theorem dX6_valueOf_209 : decode cX6_valueOf 209 = .ok (.isub, 1) := by decide +kernel
theorem dX6_valueOf_210 : decode cX6_valueOf 210 = .ok (.iload 6, 2) := by decide +kernel
theorem dX6_valueOf_212 : decode cX6_valueOf 212 = .ok (.iload 6, 2) := by decide +kernel
theorem dX6_valueOf_214 : decode cX6_valueOf 214 = .ok (.imul, 1) := by decide +kernel
theorem dX6_valueOf_215 : decode cX6_valueOf 215 = .ok (.iadd, 1) := by decide +kernel
theorem dX6_valueOf_216 : decode cX6_valueOf 216 = .ok (.invokevirtual 154, 3) := by decide +kernel
theorem dX6_valueOf_219 : decode cX6_valueOf 219 = .ok (.goto 68, 3) := by decide +kernel
theorem dX6_valueOf_222 : decode cX6_valueOf 222 = .ok (.aload_n 0, 1) := by decide +kernel
theorem dX6_valueOf_223 : decode cX6_valueOf 223 = .ok (.getfield 14, 3) := by decide +kernel
theorem dX6_valueOf_226 : decode cX6_valueOf 226 = .ok (.bipush 72, 2) := by decide +kernel
theorem dX6_valueOf_228 : decode cX6_valueOf 228 = .ok (.iload 4, 2) := by decide +kernel
theorem dX6_valueOf_230 : decode cX6_valueOf 230 = .ok (.imul, 1) := by decide +kernel
theorem dX6_valueOf_231 : decode cX6_valueOf 231 = .ok (.iload 6, 2) := by decide +kernel
theorem dX6_valueOf_233 : decode cX6_valueOf 233 = .ok (.imul, 1) := by decide +kernel
theorem dX6_valueOf_234 : decode cX6_valueOf 234 = .ok (.iload 8, 2) := by decide +kernel
theorem dX6_valueOf_236 : decode cX6_valueOf 236 = .ok (.imul, 1) := by decide +kernel
theorem dX6_valueOf_237 : decode cX6_valueOf 237 = .ok (.bipush 9, 2) := by decide +kernel
theorem dX6_valueOf_239 : decode cX6_valueOf 239 = .ok (.iload 5, 2) := by decide +kernel
theorem dX6_valueOf_241 : decode cX6_valueOf 241 = .ok (.imul, 1) := by decide +kernel
theorem dX6_valueOf_242 : decode cX6_valueOf 242 = .ok (.iload 6, 2) := by decide +kernel
theorem dX6_valueOf_244 : decode cX6_valueOf 244 = .ok (.imul, 1) := by decide +kernel
theorem dX6_valueOf_245 : decode cX6_valueOf 245 = .ok (.iload 7, 2) := by decide +kernel
theorem dX6_valueOf_247 : decode cX6_valueOf 247 = .ok (.imul, 1) := by decide +kernel
theorem dX6_valueOf_248 : decode cX6_valueOf 248 = .ok (.iadd, 1) := by decide +kernel
theorem dX6_valueOf_249 : decode cX6_valueOf 249 = .ok (.bipush 27, 2) := by decide +kernel
theorem dX6_valueOf_251 : decode cX6_valueOf 251 = .ok (.iload 4, 2) := by decide +kernel
theorem dX6_valueOf_253 : decode cX6_valueOf 253 = .ok (.imul, 1) := by decide +kernel
theorem dX6_valueOf_254 : decode cX6_valueOf 254 = .ok (.iload 7, 2) := by decide +kernel
theorem dX6_valueOf_256 : decode cX6_valueOf 256 = .ok (.imul, 1) := by decide +kernel
theorem dX6_valueOf_257 : decode cX6_valueOf 257 = .ok (.iload 7, 2) := by decide +kernel
theorem dX6_valueOf_259 : decode cX6_valueOf 259 = .ok (.imul, 1) := by decide +kernel
theorem dX6_valueOf_260 : decode cX6_valueOf 260 = .ok (.isub, 1) := by decide +kernel
theorem dX6_valueOf_261 : decode cX6_valueOf 261 = .ok (.bipush 27, 2) := by decide +kernel
theorem dX6_valueOf_263 : decode cX6_valueOf 263 = .ok (.iload 8, 2) := by decide +kernel
theorem dX6_valueOf_265 : decode cX6_valueOf 265 = .ok (.imul, 1) := by decide +kernel
theorem dX6_valueOf_266 : decode cX6_valueOf 266 = .ok (.iload 5, 2) := by decide +kernel
theorem dX6_valueOf_268 : decode cX6_valueOf 268 = .ok (.imul, 1) := by decide +kernel
theorem dX6_valueOf_269 : decode cX6_valueOf 269 = .ok (.iload 5, 2) := by decide +kernel
theorem dX6_valueOf_271 : decode cX6_valueOf 271 = .ok (.imul, 1) := by decide +kernel
theorem dX6_valueOf_272 : decode cX6_valueOf 272 = .ok (.isub, 1) := by decide +kernel
theorem dX6_valueOf_273 : decode cX6_valueOf 273 = .ok (.iconst 2, 1) := by decide +kernel
theorem dX6_valueOf_274 : decode cX6_valueOf 274 = .ok (.iload 6, 2) := by decide +kernel
theorem dX6_valueOf_276 : decode cX6_valueOf 276 = .ok (.imul, 1) := by decide +kernel
theorem dX6_valueOf_277 : decode cX6_valueOf 277 = .ok (.iload 6, 2) := by decide +kernel
theorem dX6_valueOf_279 : decode cX6_valueOf 279 = .ok (.imul, 1) := by decide +kernel
theorem dX6_valueOf_280 : decode cX6_valueOf 280 = .ok (.iload 6, 2) := by decide +kernel
theorem dX6_valueOf_282 : decode cX6_valueOf 282 = .ok (.imul, 1) := by decide +kernel
theorem dX6_valueOf_283 : decode cX6_valueOf 283 = .ok (.isub, 1) := by decide +kernel
theorem dX6_valueOf_284 : decode cX6_valueOf 284 = .ok (.invokevirtual 154, 3) := by decide +kernel
theorem dX6_valueOf_287 : decode cX6_valueOf 287 = .ok (.ireturn, 1) := by decide +kernel
theorem dX6_valueOf_288 : decode cX6_valueOf 288 = .ok (.iconst 0, 1) := by decide +kernel
theorem dX6_valueOf_289 : decode cX6_valueOf 289 = .ok (.ireturn, 1) := by decide +kernel
set_option maxRecDepth 20000 in
theorem ggX6_weighsBy_X4_generatorMatrix : GoodIn wsX6_weighsBy wsX4_generatorMatrix := goodIn_r _ [7, 8, 9, 10, 11, 12, 6, 13, 14, 15, 16, 17, 18, 19, 20, 21, 91, 92, 93, 94, 95, 96, 97, 98, 99] (by decide +kernel) (by decide +kernel)
set_option maxRecDepth 20000 in
theorem gX6_weighsBy_X4_generatorMatrix : GoodIn wsX6_weighsBy (wsV RX6 200 RX4 yX4_generatorMatrix wsX4_generatorMatrix) := goodIn_app (goodIn_of _ (by decide +kernel)) ggX6_weighsBy_X4_generatorMatrix
set_option maxRecDepth 20000 in
theorem ggX6_weighsBy_X2_determinant : GoodIn wsX6_weighsBy wsX2_determinant := goodIn_r _ [25, 26, 27, 28, 19, 29, 30, 31, 32, 33, 21, 34, 35, 36, 37, 38, 39, 40, 41, 99] (by decide +kernel) (by decide +kernel)
set_option maxRecDepth 20000 in
theorem gX6_weighsBy_X2_determinant : GoodIn wsX6_weighsBy (wsV RX6 295 RX2 yX2_determinant wsX2_determinant) := goodIn_app (goodIn_of _ (by decide +kernel)) ggX6_weighsBy_X2_determinant
set_option maxRecDepth 20000 in
theorem ggX6_weighsBy_X4_image : GoodIn wsX6_weighsBy wsX4_image := goodIn_r _ [45, 10, 11, 12, 6, 13, 14, 15, 46, 47, 48, 49, 50, 51, 52, 53, 54, 55, 91, 92, 93, 94, 95, 96, 97, 98] (by decide +kernel) (by decide +kernel)
set_option maxRecDepth 20000 in
theorem gX6_weighsBy_X4_image : GoodIn wsX6_weighsBy (wsV RX6 182 RX4 yX4_image wsX4_image) := goodIn_app (goodIn_of _ (by decide +kernel)) ggX6_weighsBy_X4_image
set_option maxRecDepth 20000 in
theorem ggX6_weighsBy_X6_countValues : GoodIn wsX6_weighsBy wsX6_countValues := goodIn_r _ [58] (by decide +kernel) (by decide +kernel)
set_option maxRecDepth 20000 in
theorem gX6_weighsBy_X6_countValues : GoodIn wsX6_weighsBy (va_wsS RX6 225 yX6_countValues wsX6_countValues) := goodIn_app (goodIn_of _ (by decide +kernel)) ggX6_weighsBy_X6_countValues
set_option maxRecDepth 20000 in
theorem ggX6_weighsBy_X6_weightOf : GoodIn wsX6_weighsBy wsX6_weightOf := goodIn_r _ [61] (by decide +kernel) (by decide +kernel)
set_option maxRecDepth 20000 in
theorem gX6_weighsBy_X6_weightOf : GoodIn wsX6_weighsBy (va_wsS RX6 298 yX6_weightOf wsX6_weightOf) := goodIn_app (goodIn_of _ (by decide +kernel)) ggX6_weighsBy_X6_weightOf
set_option maxRecDepth 20000 in
theorem ggX6_weighsBy_X2_power : GoodIn wsX6_weighsBy wsX2_power := goodIn_r _ [65, 34, 35, 36, 19, 37, 21, 38, 39, 40, 41, 99] (by decide +kernel) (by decide +kernel)
set_option maxRecDepth 20000 in
theorem gX6_weighsBy_X2_power : GoodIn wsX6_weighsBy (wsV RX6 151 RX2 yX2_power wsX2_power) := goodIn_app (goodIn_of _ (by decide +kernel)) ggX6_weighsBy_X2_power
set_option maxRecDepth 20000 in
theorem ggX6_weighsBy_X6_valueOf : GoodIn wsX6_weighsBy wsX6_valueOf := goodIn_r _ [69, 1, 70, 71, 72, 73, 19, 74, 21, 34, 35, 36, 37, 38, 39, 40, 41, 75, 54, 76, 77, 53, 55, 78, 79, 80, 81, 82, 83, 84, 85, 86, 87, 88, 89, 90, 99] (by decide +kernel) (by decide +kernel)
set_option maxRecDepth 20000 in
theorem gX6_weighsBy_X6_valueOf : GoodIn wsX6_weighsBy (wsV RX6 230 RX6 yX6_valueOf wsX6_valueOf) := goodIn_app (goodIn_of _ (by decide +kernel)) ggX6_weighsBy_X6_valueOf
set_option maxRecDepth 20000 in
theorem ggX6_weighsBy_X2_rest : GoodIn wsX6_weighsBy wsX2_rest := goodIn_r _ [37, 21, 38, 39, 40, 41, 99] (by decide +kernel) (by decide +kernel)
set_option maxRecDepth 20000 in
theorem gX6_weighsBy_X2_rest : GoodIn wsX6_weighsBy (wsV RX6 154 RX2 yX2_rest wsX2_rest) := goodIn_app (goodIn_of _ (by decide +kernel)) ggX6_weighsBy_X2_rest
theorem dX6_weighsBy_0 : decode cX6_weighsBy 0 = .ok (.aload_n 0, 1) := by decide +kernel
theorem dX6_weighsBy_1 : decode cX6_weighsBy 1 = .ok (.getfield 14, 3) := by decide +kernel
theorem dX6_weighsBy_4 : decode cX6_weighsBy 4 = .ok (.aload_n 0, 1) := by decide +kernel
theorem dX6_weighsBy_5 : decode cX6_weighsBy 5 = .ok (.getfield 37, 3) := by decide +kernel
theorem dX6_weighsBy_8 : decode cX6_weighsBy 8 = .ok (.iload_n 3, 1) := by decide +kernel
theorem dX6_weighsBy_9 : decode cX6_weighsBy 9 = .ok (.invokevirtual 200, 3) := by decide +kernel
theorem dX6_weighsBy_12 : decode cX6_weighsBy 12 = .ok (.invokevirtual 295, 3) := by decide +kernel
theorem dX6_weighsBy_15 : decode cX6_weighsBy 15 = .ok (.istore 4, 2) := by decide +kernel
theorem dX6_weighsBy_17 : decode cX6_weighsBy 17 = .ok (.aload_n 0, 1) := by decide +kernel
theorem dX6_weighsBy_18 : decode cX6_weighsBy 18 = .ok (.getfield 37, 3) := by decide +kernel
theorem dX6_weighsBy_21 : decode cX6_weighsBy 21 = .ok (.iload_n 3, 1) := by decide +kernel
theorem dX6_weighsBy_22 : decode cX6_weighsBy 22 = .ok (.iload_n 1, 1) := by decide +kernel
theorem dX6_weighsBy_23 : decode cX6_weighsBy 23 = .ok (.iload_n 2, 1) := by decide +kernel
theorem dX6_weighsBy_24 : decode cX6_weighsBy 24 = .ok (.invokevirtual 182, 3) := by decide +kernel
theorem dX6_weighsBy_27 : decode cX6_weighsBy 27 = .ok (.istore 5, 2) := by decide +kernel
theorem dX6_weighsBy_29 : decode cX6_weighsBy 29 = .ok (.iconst 0, 1) := by decide +kernel
theorem dX6_weighsBy_30 : decode cX6_weighsBy 30 = .ok (.istore 6, 2) := by decide +kernel
theorem dX6_weighsBy_32 : decode cX6_weighsBy 32 = .ok (.iload 6, 2) := by decide +kernel
theorem dX6_weighsBy_34 : decode cX6_weighsBy 34 = .ok (.iload_n 1, 1) := by decide +kernel
theorem dX6_weighsBy_35 : decode cX6_weighsBy 35 = .ok (.invokestatic 225, 3) := by decide +kernel
theorem dX6_weighsBy_38 : decode cX6_weighsBy 38 = .ok (.if_icmp .ge 58, 3) := by decide +kernel
theorem dX6_weighsBy_41 : decode cX6_weighsBy 41 = .ok (.aload_n 0, 1) := by decide +kernel
theorem dX6_weighsBy_42 : decode cX6_weighsBy 42 = .ok (.getfield 14, 3) := by decide +kernel
theorem dX6_weighsBy_45 : decode cX6_weighsBy 45 = .ok (.iload 4, 2) := by decide +kernel
theorem dX6_weighsBy_47 : decode cX6_weighsBy 47 = .ok (.iload_n 1, 1) := by decide +kernel
theorem dX6_weighsBy_48 : decode cX6_weighsBy 48 = .ok (.iload 6, 2) := by decide +kernel
theorem dX6_weighsBy_50 : decode cX6_weighsBy 50 = .ok (.invokestatic 298, 3) := by decide +kernel
theorem dX6_weighsBy_53 : decode cX6_weighsBy 53 = .ok (.invokevirtual 151, 3) := by decide +kernel
theorem dX6_weighsBy_56 : decode cX6_weighsBy 56 = .ok (.istore 7, 2) := by decide +kernel
theorem dX6_weighsBy_58 : decode cX6_weighsBy 58 = .ok (.aload_n 0, 1) := by decide +kernel
theorem dX6_weighsBy_59 : decode cX6_weighsBy 59 = .ok (.iload_n 1, 1) := by decide +kernel
theorem dX6_weighsBy_60 : decode cX6_weighsBy 60 = .ok (.iload 5, 2) := by decide +kernel
theorem dX6_weighsBy_62 : decode cX6_weighsBy 62 = .ok (.iload 6, 2) := by decide +kernel
theorem dX6_weighsBy_64 : decode cX6_weighsBy 64 = .ok (.invokevirtual 230, 3) := by decide +kernel
theorem dX6_weighsBy_67 : decode cX6_weighsBy 67 = .ok (.aload_n 0, 1) := by decide +kernel
theorem dX6_weighsBy_68 : decode cX6_weighsBy 68 = .ok (.getfield 14, 3) := by decide +kernel
theorem dX6_weighsBy_71 : decode cX6_weighsBy 71 = .ok (.aload_n 0, 1) := by decide +kernel
theorem dX6_weighsBy_72 : decode cX6_weighsBy 72 = .ok (.iload_n 1, 1) := by decide +kernel
theorem dX6_weighsBy_73 : decode cX6_weighsBy 73 = .ok (.iload_n 2, 1) := by decide +kernel
theorem dX6_weighsBy_74 : decode cX6_weighsBy 74 = .ok (.iload 6, 2) := by decide +kernel
theorem dX6_weighsBy_76 : decode cX6_weighsBy 76 = .ok (.invokevirtual 230, 3) := by decide +kernel
theorem dX6_weighsBy_79 : decode cX6_weighsBy 79 = .ok (.iload 7, 2) := by decide +kernel
theorem dX6_weighsBy_81 : decode cX6_weighsBy 81 = .ok (.imul, 1) := by decide +kernel
theorem dX6_weighsBy_82 : decode cX6_weighsBy 82 = .ok (.invokevirtual 154, 3) := by decide +kernel
theorem dX6_weighsBy_85 : decode cX6_weighsBy 85 = .ok (.if_icmp .eq 5, 3) := by decide +kernel
theorem dX6_weighsBy_88 : decode cX6_weighsBy 88 = .ok (.iconst 0, 1) := by decide +kernel
theorem dX6_weighsBy_89 : decode cX6_weighsBy 89 = .ok (.ireturn, 1) := by decide +kernel
theorem dX6_weighsBy_90 : decode cX6_weighsBy 90 = .ok (.iinc 6 1, 3) := by decide +kernel
theorem dX6_weighsBy_93 : decode cX6_weighsBy 93 = .ok (.goto (-61), 3) := by decide +kernel
theorem dX6_weighsBy_96 : decode cX6_weighsBy 96 = .ok (.iconst 1, 1) := by decide +kernel
theorem dX6_weighsBy_97 : decode cX6_weighsBy 97 = .ok (.ireturn, 1) := by decide +kernel
