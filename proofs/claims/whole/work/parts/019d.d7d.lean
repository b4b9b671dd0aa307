theorem dX7_step_39 : decode cX7_step 39 = .ok (.aload_n 0, 1) := by decide +kernel
theorem dX7_step_40 : decode cX7_step 40 = .ok (.getfield 13, 3) := by decide +kernel
theorem dX7_step_43 : decode cX7_step 43 = .ok (.iload_n 2, 1) := by decide +kernel
theorem dX7_step_44 : decode cX7_step 44 = .ok (.iaload, 1) := by decide +kernel
theorem dX7_step_45 : decode cX7_step 45 = .ok (.if_icmp .ne 7, 3) := by decide +kernel
theorem dX7_step_48 : decode cX7_step 48 = .ok (.iload_n 3, 1) := by decide +kernel
theorem dX7_step_49 : decode cX7_step 49 = .ok (.ifCond .ge 7, 3) := by decide +kernel
theorem dX7_step_52 : decode cX7_step 52 = .ok (.iconst 2, 1) := by decide +kernel
theorem dX7_step_53 : decode cX7_step 53 = .ok (.goto 4, 3) := by decide +kernel
theorem dX7_step_56 : decode cX7_step 56 = .ok (.iconst 0, 1) := by decide +kernel
theorem dX7_step_57 : decode cX7_step 57 = .ok (.invokevirtual 74, 3) := by decide +kernel
theorem dX7_step_60 : decode cX7_step 60 = .ok (.ifCond .eq 13, 3) := by decide +kernel
theorem dX7_step_63 : decode cX7_step 63 = .ok (.aload_n 0, 1) := by decide +kernel
theorem dX7_step_64 : decode cX7_step 64 = .ok (.iload_n 1, 1) := by decide +kernel
theorem dX7_step_65 : decode cX7_step 65 = .ok (.iload_n 2, 1) := by decide +kernel
theorem dX7_step_66 : decode cX7_step 66 = .ok (.iload_n 3, 1) := by decide +kernel
theorem dX7_step_67 : decode cX7_step 67 = .ok (.invokevirtual 201, 3) := by decide +kernel
theorem dX7_step_70 : decode cX7_step 70 = .ok (.goto 4, 3) := by decide +kernel
theorem dX7_step_73 : decode cX7_step 73 = .ok (.iconst 0, 1) := by decide +kernel
theorem dX7_step_74 : decode cX7_step 74 = .ok (.ireturn, 1) := by decide +kernel
set_option maxRecDepth 20000 in
theorem ggX7_orbitsOf_X7_gathers : GoodIn wsX7_orbitsOf wsX7_gathers := goodIn_r _ [8, 9, 1, 10, 11, 2, 12, 13, 14, 7, 15, 16, 17, 18, 19, 20, 21, 22, 23, 24, 25, 26, 27, 28, 29, 30, 31, 32, 52, 53, 54, 55, 56, 57, 58, 59, 60, 61, 62, 63, 64, 65, 66, 67, 68, 69, 70, 71, 72, 73] (by decide +kernel) (by decide +kernel)
set_option maxRecDepth 20000 in
theorem gX7_orbitsOf_X7_gathers : GoodIn wsX7_orbitsOf (wsV RX7 114 RX7 yX7_gathers wsX7_gathers) := goodIn_app (goodIn_of _ (by decide +kernel)) ggX7_orbitsOf_X7_gathers
set_option maxRecDepth 20000 in
theorem ggX7_orbitsOf_X7_learns : GoodIn wsX7_orbitsOf wsX7_learns := goodIn_r _ [36, 37, 38, 21, 22, 23, 7, 24, 10, 25, 26, 27, 28, 29, 30, 31, 32, 52, 53, 54, 55, 56, 57, 58, 59, 60, 61, 62, 63, 64, 65, 66, 67, 68, 69, 70, 71, 72, 73] (by decide +kernel) (by decide +kernel)
set_option maxRecDepth 20000 in
theorem gX7_orbitsOf_X7_learns : GoodIn wsX7_orbitsOf (wsV RX7 120 RX7 yX7_learns wsX7_learns) := goodIn_app (goodIn_of _ (by decide +kernel)) ggX7_orbitsOf_X7_learns
set_option maxRecDepth 20000 in
theorem ggX7_orbitsOf_X7_laysRows : GoodIn wsX7_orbitsOf wsX7_laysRows := goodIn_r _ [42, 43, 3, 38, 29, 30, 31, 7, 32, 10, 52, 53, 54, 55, 56, 57, 58, 59, 60, 61, 62, 63, 64, 65, 66, 67, 68, 69, 70, 71, 72, 73] (by decide +kernel) (by decide +kernel)
set_option maxRecDepth 20000 in
theorem gX7_orbitsOf_X7_laysRows : GoodIn wsX7_orbitsOf (wsV RX7 139 RX7 yX7_laysRows wsX7_laysRows) := goodIn_app (goodIn_of _ (by decide +kernel)) ggX7_orbitsOf_X7_laysRows
set_option maxRecDepth 20000 in
theorem ggX7_orbitsOf_X7_free : GoodIn wsX7_orbitsOf wsX7_free := goodIn_r _ [47, 3, 43, 48, 49, 50, 7, 51, 10, 29, 30, 31, 32, 52, 53, 54, 55, 56, 57, 58, 59, 60, 61, 62, 63, 64, 65, 66, 67, 68, 69, 70, 71, 72, 73] (by decide +kernel) (by decide +kernel)
set_option maxRecDepth 20000 in
theorem gX7_orbitsOf_X7_free : GoodIn wsX7_orbitsOf (wsV RX7 142 RX7 yX7_free wsX7_free) := goodIn_app (goodIn_of _ (by decide +kernel)) ggX7_orbitsOf_X7_free
set_option maxRecDepth 20000 in
theorem ggX7_orbitsOf_X7_power : GoodIn wsX7_orbitsOf wsX7_power := goodIn_r _ [28, 10, 52, 53, 54, 55, 56, 57, 58, 59, 60, 61, 62, 63, 64, 65, 66, 67, 68, 69, 70, 71, 72, 73] (by decide +kernel) (by decide +kernel)
set_option maxRecDepth 20000 in
theorem gX7_orbitsOf_X7_power : GoodIn wsX7_orbitsOf (wsV RX7 70 RX7 yX7_power wsX7_power) := goodIn_app (goodIn_of _ (by decide +kernel)) ggX7_orbitsOf_X7_power
theorem dX7_orbitsOf_0 : decode cX7_orbitsOf 0 = .ok (.aload_n 0, 1) := by decide +kernel
theorem dX7_orbitsOf_1 : decode cX7_orbitsOf 1 = .ok (.invokevirtual 114, 3) := by decide +kernel
theorem dX7_orbitsOf_4 : decode cX7_orbitsOf 4 = .ok (.iconst 0, 1) := by decide +kernel
theorem dX7_orbitsOf_5 : decode cX7_orbitsOf 5 = .ok (.istore_n 2, 1) := by decide +kernel
theorem dX7_orbitsOf_6 : decode cX7_orbitsOf 6 = .ok (.iconst 0, 1) := by decide +kernel
theorem dX7_orbitsOf_7 : decode cX7_orbitsOf 7 = .ok (.istore_n 3, 1) := by decide +kernel
theorem dX7_orbitsOf_8 : decode cX7_orbitsOf 8 = .ok (.iload_n 3, 1) := by decide +kernel
theorem dX7_orbitsOf_9 : decode cX7_orbitsOf 9 = .ok (.aload_n 0, 1) := by decide +kernel
theorem dX7_orbitsOf_10 : decode cX7_orbitsOf 10 = .ok (.getfield 104, 3) := by decide +kernel
theorem dX7_orbitsOf_13 : decode cX7_orbitsOf 13 = .ok (.if_icmp .ge 42, 3) := by decide +kernel
theorem dX7_orbitsOf_16 : decode cX7_orbitsOf 16 = .ok (.aload_n 0, 1) := by decide +kernel
theorem dX7_orbitsOf_17 : decode cX7_orbitsOf 17 = .ok (.aload_n 0, 1) := by decide +kernel
theorem dX7_orbitsOf_18 : decode cX7_orbitsOf 18 = .ok (.getfield 27, 3) := by decide +kernel
theorem dX7_orbitsOf_21 : decode cX7_orbitsOf 21 = .ok (.iload_n 3, 1) := by decide +kernel
theorem dX7_orbitsOf_22 : decode cX7_orbitsOf 22 = .ok (.iaload, 1) := by decide +kernel
theorem dX7_orbitsOf_23 : decode cX7_orbitsOf 23 = .ok (.iload_n 1, 1) := by decide +kernel
theorem dX7_orbitsOf_24 : decode cX7_orbitsOf 24 = .ok (.invokevirtual 120, 3) := by decide +kernel
theorem dX7_orbitsOf_27 : decode cX7_orbitsOf 27 = .ok (.aload_n 0, 1) := by decide +kernel
theorem dX7_orbitsOf_28 : decode cX7_orbitsOf 28 = .ok (.iconst 0, 1) := by decide +kernel
theorem dX7_orbitsOf_29 : decode cX7_orbitsOf 29 = .ok (.putfield 136, 3) := by decide +kernel
theorem dX7_orbitsOf_32 : decode cX7_orbitsOf 32 = .ok (.aload_n 0, 1) := by decide +kernel
theorem dX7_orbitsOf_33 : decode cX7_orbitsOf 33 = .ok (.iload_n 1, 1) := by decide +kernel
theorem dX7_orbitsOf_34 : decode cX7_orbitsOf 34 = .ok (.invokevirtual 139, 3) := by decide +kernel
theorem dX7_orbitsOf_37 : decode cX7_orbitsOf 37 = .ok (.iload_n 2, 1) := by decide +kernel
theorem dX7_orbitsOf_38 : decode cX7_orbitsOf 38 = .ok (.aload_n 0, 1) := by decide +kernel
theorem dX7_orbitsOf_39 : decode cX7_orbitsOf 39 = .ok (.aload_n 0, 1) := by decide +kernel
theorem dX7_orbitsOf_40 : decode cX7_orbitsOf 40 = .ok (.iload_n 1, 1) := by decide +kernel
theorem dX7_orbitsOf_41 : decode cX7_orbitsOf 41 = .ok (.invokevirtual 142, 3) := by decide +kernel
theorem dX7_orbitsOf_44 : decode cX7_orbitsOf 44 = .ok (.invokevirtual 70, 3) := by decide +kernel
theorem dX7_orbitsOf_47 : decode cX7_orbitsOf 47 = .ok (.iadd, 1) := by decide +kernel
theorem dX7_orbitsOf_48 : decode cX7_orbitsOf 48 = .ok (.istore_n 2, 1) := by decide +kernel
theorem dX7_orbitsOf_49 : decode cX7_orbitsOf 49 = .ok (.iinc 3 1, 3) := by decide +kernel
theorem dX7_orbitsOf_52 : decode cX7_orbitsOf 52 = .ok (.goto (-44), 3) := by decide +kernel
theorem dX7_orbitsOf_55 : decode cX7_orbitsOf 55 = .ok (.iload_n 2, 1) := by decide +kernel
theorem dX7_orbitsOf_56 : decode cX7_orbitsOf 56 = .ok (.aload_n 0, 1) := by decide +kernel
theorem dX7_orbitsOf_57 : decode cX7_orbitsOf 57 = .ok (.getfield 104, 3) := by decide +kernel
theorem dX7_orbitsOf_60 : decode cX7_orbitsOf 60 = .ok (.idiv, 1) := by decide +kernel
theorem dX7_orbitsOf_61 : decode cX7_orbitsOf 61 = .ok (.ireturn, 1) := by decide +kernel
set_option maxRecDepth 20000 in
theorem ggX7_orbits_X7_isDegree : GoodIn wsX7_orbits wsX7_isDegree := goodIn_r _ [5, 6, 7, 4, 8] (by decide +kernel) (by decide +kernel)
set_option maxRecDepth 20000 in
theorem gX7_orbits_X7_isDegree : GoodIn wsX7_orbits (wsV RX7 81 RX7 yX7_isDegree wsX7_isDegree) := goodIn_app (goodIn_of _ (by decide +kernel)) ggX7_orbits_X7_isDegree
set_option maxRecDepth 20000 in
theorem ggX7_orbits_X7_holds : GoodIn wsX7_orbits wsX7_holds := goodIn_r _ [12, 13, 68, 69, 70, 71, 72, 73, 74, 75, 76, 77, 78, 79, 80, 81, 82, 83, 84, 85, 86, 87, 88, 89] (by decide +kernel) (by decide +kernel)
set_option maxRecDepth 20000 in
theorem gX7_orbits_X7_holds : GoodIn wsX7_orbits (wsV RX7 74 RX7 yX7_holds wsX7_holds) := goodIn_app (goodIn_of _ (by decide +kernel)) ggX7_orbits_X7_holds
set_option maxRecDepth 20000 in
theorem ggX7_orbits_X7_orbitsOf : GoodIn wsX7_orbits wsX7_orbitsOf := goodIn_r _ [17, 18, 19, 20, 21, 22, 23, 4, 24, 25, 26, 27, 28, 29, 30, 31, 32, 33, 34, 35, 36, 37, 38, 39, 40, 41, 42, 43, 44, 45, 46, 47, 48, 49, 50, 51, 52, 53, 54, 55, 56, 57, 58, 59, 60, 61, 62, 63, 64, 65, 66, 67, 68, 69, 70, 71, 72, 73, 74, 75, 76, 77, 78, 79, 80, 81, 82, 83, 84, 85, 86, 87, 88, 89] (by decide +kernel) (by decide +kernel)
set_option maxRecDepth 20000 in
theorem gX7_orbits_X7_orbitsOf : GoodIn wsX7_orbits (wsV RX7 204 RX7 yX7_orbitsOf wsX7_orbitsOf) := goodIn_app (goodIn_of _ (by decide +kernel)) ggX7_orbits_X7_orbitsOf
theorem dX7_orbits_0 : decode cX7_orbits 0 = .ok (.aload_n 0, 1) := by decide +kernel
theorem dX7_orbits_1 : decode cX7_orbits 1 = .ok (.aload_n 0, 1) := by decide +kernel
theorem dX7_orbits_2 : decode cX7_orbits 2 = .ok (.iload_n 1, 1) := by decide +kernel
theorem dX7_orbits_3 : decode cX7_orbits 3 = .ok (.invokevirtual 81, 3) := by decide +kernel
theorem dX7_orbits_6 : decode cX7_orbits 6 = .ok (.ifCond .eq 7, 3) := by decide +kernel
theorem dX7_orbits_9 : decode cX7_orbits 9 = .ok (.iconst 0, 1) := by decide +kernel
theorem dX7_orbits_10 : decode cX7_orbits 10 = .ok (.goto 4, 3) := by decide +kernel
theorem dX7_orbits_13 : decode cX7_orbits 13 = .ok (.iconst 1, 1) := by decide +kernel
theorem dX7_orbits_14 : decode cX7_orbits 14 = .ok (.invokevirtual 74, 3) := by decide +kernel
theorem dX7_orbits_17 : decode cX7_orbits 17 = .ok (.ifCond .eq 11, 3) := by decide +kernel
theorem dX7_orbits_20 : decode cX7_orbits 20 = .ok (.aload_n 0, 1) := by decide +kernel
theorem dX7_orbits_21 : decode cX7_orbits 21 = .ok (.iload_n 1, 1) := by decide +kernel
theorem dX7_orbits_22 : decode cX7_orbits 22 = .ok (.invokevirtual 204, 3) := by decide +kernel
theorem dX7_orbits_25 : decode cX7_orbits 25 = .ok (.goto 4, 3) := by decide +kernel
theorem dX7_orbits_28 : decode cX7_orbits 28 = .ok (.iconst 0, 1) := by decide +kernel
theorem dX7_orbits_29 : decode cX7_orbits 29 = .ok (.ireturn, 1) := by decide +kernel
set_option maxRecDepth 20000 in
theorem ggX7_orbitsAnew_X7_isDegree : GoodIn wsX7_orbitsAnew wsX7_isDegree := goodIn_r _ [5, 6, 7, 4, 8] (by decide +kernel) (by decide +kernel)
set_option maxRecDepth 20000 in
theorem gX7_orbitsAnew_X7_isDegree : GoodIn wsX7_orbitsAnew (wsV RX7 81 RX7 yX7_isDegree wsX7_isDegree) := goodIn_app (goodIn_of _ (by decide +kernel)) ggX7_orbitsAnew_X7_isDegree
set_option maxRecDepth 20000 in
theorem ggX7_orbitsAnew_X7_holds : GoodIn wsX7_orbitsAnew wsX7_holds := goodIn_r _ [12, 13, 68, 69, 70, 71, 72, 73, 74, 75, 76, 77, 78, 79, 80, 81, 82, 83, 84, 85, 86, 87, 88, 89] (by decide +kernel) (by decide +kernel)
set_option maxRecDepth 20000 in
theorem gX7_orbitsAnew_X7_holds : GoodIn wsX7_orbitsAnew (wsV RX7 74 RX7 yX7_holds wsX7_holds) := goodIn_app (goodIn_of _ (by decide +kernel)) ggX7_orbitsAnew_X7_holds
set_option maxRecDepth 20000 in
theorem ggX7_orbitsAnew_X7_orbitsOf : GoodIn wsX7_orbitsAnew wsX7_orbitsOf := goodIn_r _ [17, 18, 19, 20, 21, 22, 23, 4, 24, 25, 26, 27, 28, 29, 30, 31, 32, 33, 34, 35, 36, 37, 38, 39, 40, 41, 42, 43, 44, 45, 46, 47, 48, 49, 50, 51, 52, 53, 54, 55, 56, 57, 58, 59, 60, 61, 62, 63, 64, 65, 66, 67, 68, 69, 70, 71, 72, 73, 74, 75, 76, 77, 78, 79, 80, 81, 82, 83, 84, 85, 86, 87, 88, 89] (by decide +kernel) (by decide +kernel)
set_option maxRecDepth 20000 in
theorem gX7_orbitsAnew_X7_orbitsOf : GoodIn wsX7_orbitsAnew (wsV RX7 204 RX7 yX7_orbitsOf wsX7_orbitsOf) := goodIn_app (goodIn_of _ (by decide +kernel)) ggX7_orbitsAnew_X7_orbitsOf
theorem dX7_orbitsAnew_0 : decode cX7_orbitsAnew 0 = .ok (.aload_n 0, 1) := by decide +kernel
theorem dX7_orbitsAnew_1 : decode cX7_orbitsAnew 1 = .ok (.aload_n 0, 1) := by decide +kernel
theorem dX7_orbitsAnew_2 : decode cX7_orbitsAnew 2 = .ok (.iload_n 1, 1) := by decide +kernel
theorem dX7_orbitsAnew_3 : decode cX7_orbitsAnew 3 = .ok (.invokevirtual 81, 3) := by decide +kernel
theorem dX7_orbitsAnew_6 : decode cX7_orbitsAnew 6 = .ok (.ifCond .eq 7, 3) := by decide +kernel
theorem dX7_orbitsAnew_9 : decode cX7_orbitsAnew 9 = .ok (.iconst 0, 1) := by decide +kernel
theorem dX7_orbitsAnew_10 : decode cX7_orbitsAnew 10 = .ok (.goto 4, 3) := by decide +kernel
theorem dX7_orbitsAnew_13 : decode cX7_orbitsAnew 13 = .ok (.iconst 1, 1) := by decide +kernel
theorem dX7_orbitsAnew_14 : decode cX7_orbitsAnew 14 = .ok (.invokevirtual 74, 3) := by decide +kernel
theorem dX7_orbitsAnew_17 : decode cX7_orbitsAnew 17 = .ok (.ifCond .eq 11, 3) := by decide +kernel
theorem dX7_orbitsAnew_20 : decode cX7_orbitsAnew 20 = .ok (.aload_n 0, 1) := by decide +kernel
theorem dX7_orbitsAnew_21 : decode cX7_orbitsAnew 21 = .ok (.iload_n 1, 1) := by decide +kernel
theorem dX7_orbitsAnew_22 : decode cX7_orbitsAnew 22 = .ok (.invokevirtual 204, 3) := by decide +kernel
theorem dX7_orbitsAnew_25 : decode cX7_orbitsAnew 25 = .ok (.goto 4, 3) := by decide +kernel
theorem dX7_orbitsAnew_28 : decode cX7_orbitsAnew 28 = .ok (.iconst 0, 1) := by decide +kernel
theorem dX7_orbitsAnew_29 : decode cX7_orbitsAnew 29 = .ok (.ireturn, 1) := by decide +kernel
