theorem dX7_generatorCode_56 : decode cX7_generatorCode 56 = .ok (.imul, 1) := by decide +kernel
theorem dX7_generatorCode_57 : decode cX7_generatorCode 57 = .ok (.aload_n 0, 1) := by decide +kernel
theorem dX7_generatorCode_58 : decode cX7_generatorCode 58 = .ok (.getfield 20, 3) := by decide +kernel
theorem dX7_generatorCode_61 : decode cX7_generatorCode 61 = .ok (.iload_n 2, 1) := by decide +kernel
theorem dX7_generatorCode_62 : decode cX7_generatorCode 62 = .ok (.iconst 3, 1) := by decide +kernel
theorem dX7_generatorCode_63 : decode cX7_generatorCode 63 = .ok (.iadd, 1) := by decide +kernel
theorem dX7_generatorCode_64 : decode cX7_generatorCode 64 = .ok (.iaload, 1) := by decide +kernel
theorem dX7_generatorCode_65 : decode cX7_generatorCode 65 = .ok (.imul, 1) := by decide +kernel
theorem dX7_generatorCode_66 : decode cX7_generatorCode 66 = .ok (.iadd, 1) := by decide +kernel
theorem dX7_generatorCode_67 : decode cX7_generatorCode 67 = .ok (.ireturn, 1) := by decide +kernel
set_option maxRecDepth 20000 in
theorem ggX7_learns_X7_figure : GoodIn wsX7_learns wsX7_figure := goodIn_r _ [7, 8, 9, 10, 11, 6, 12, 17, 18, 19, 20, 21, 22, 23, 24, 25, 26, 27, 28, 29, 30, 31, 32, 33, 34, 35, 36, 37, 38] (by decide +kernel) (by decide +kernel)
set_option maxRecDepth 20000 in
theorem gX7_learns_X7_figure : GoodIn wsX7_learns (wsV RX7 84 RX7 yX7_figure wsX7_figure) := goodIn_app (goodIn_of _ (by decide +kernel)) ggX7_learns_X7_figure
set_option maxRecDepth 20000 in
theorem ggX7_learns_X7_mod : GoodIn wsX7_learns wsX7_mod := goodIn_r _ [16, 8, 17, 18, 19, 20, 21, 22, 23, 24, 25, 26, 27, 28, 29, 30, 31, 32, 33, 34, 35, 36, 37, 38] (by decide +kernel) (by decide +kernel)
set_option maxRecDepth 20000 in
theorem gX7_learns_X7_mod : GoodIn wsX7_learns (wsV RX7 88 RX7 yX7_mod wsX7_mod) := goodIn_app (goodIn_of _ (by decide +kernel)) ggX7_learns_X7_mod
theorem dX7_learns_0 : decode cX7_learns 0 = .ok (.iconst 0, 1) := by decide +kernel
theorem dX7_learns_1 : decode cX7_learns 1 = .ok (.istore_n 3, 1) := by decide +kernel
theorem dX7_learns_2 : decode cX7_learns 2 = .ok (.iload_n 3, 1) := by decide +kernel
theorem dX7_learns_3 : decode cX7_learns 3 = .ok (.iload_n 2, 1) := by decide +kernel
theorem dX7_learns_4 : decode cX7_learns 4 = .ok (.if_icmp .gt 195, 3) := by decide +kernel
theorem dX7_learns_7 : decode cX7_learns 7 = .ok (.iconst 0, 1) := by decide +kernel
theorem dX7_learns_8 : decode cX7_learns 8 = .ok (.istore 4, 2) := by decide +kernel
theorem dX7_learns_10 : decode cX7_learns 10 = .ok (.iload 4, 2) := by decide +kernel
theorem dX7_learns_12 : decode cX7_learns 12 = .ok (.iconst 5, 1) := by decide +kernel
theorem dX7_learns_13 : decode cX7_learns 13 = .ok (.if_icmp .ge 26, 3) := by decide +kernel
theorem dX7_learns_16 : decode cX7_learns 16 = .ok (.aload_n 0, 1) := by decide +kernel
theorem dX7_learns_17 : decode cX7_learns 17 = .ok (.getfield 36, 3) := by decide +kernel
theorem dX7_learns_20 : decode cX7_learns 20 = .ok (.iload 4, 2) := by decide +kernel
theorem dX7_learns_22 : decode cX7_learns 22 = .ok (.iload 4, 2) := by decide +kernel
theorem dX7_learns_24 : decode cX7_learns 24 = .ok (.ifCond .ne 7, 3) := by decide +kernel
theorem dX7_learns_27 : decode cX7_learns 27 = .ok (.iconst 1, 1) := by decide +kernel
theorem dX7_learns_28 : decode cX7_learns 28 = .ok (.goto 4, 3) := by decide +kernel
theorem dX7_learns_31 : decode cX7_learns 31 = .ok (.iconst 0, 1) := by decide +kernel
theorem dX7_learns_32 : decode cX7_learns 32 = .ok (.iastore, 1) := by decide +kernel
theorem dX7_learns_33 : decode cX7_learns 33 = .ok (.iinc 4 1, 3) := by decide +kernel
theorem dX7_learns_36 : decode cX7_learns 36 = .ok (.goto (-26), 3) := by decide +kernel
theorem dX7_learns_39 : decode cX7_learns 39 = .ok (.iconst 0, 1) := by decide +kernel
theorem dX7_learns_40 : decode cX7_learns 40 = .ok (.istore 4, 2) := by decide +kernel
theorem dX7_learns_42 : decode cX7_learns 42 = .ok (.iload 4, 2) := by decide +kernel
theorem dX7_learns_44 : decode cX7_learns 44 = .ok (.iload_n 2, 1) := by decide +kernel
theorem dX7_learns_45 : decode cX7_learns 45 = .ok (.if_icmp .ge 115, 3) := by decide +kernel
theorem dX7_learns_48 : decode cX7_learns 48 = .ok (.aload_n 0, 1) := by decide +kernel
theorem dX7_learns_49 : decode cX7_learns 49 = .ok (.iload_n 1, 1) := by decide +kernel
theorem dX7_learns_50 : decode cX7_learns 50 = .ok (.iload 4, 2) := by decide +kernel
theorem dX7_learns_52 : decode cX7_learns 52 = .ok (.iload_n 3, 1) := by decide +kernel
theorem dX7_learns_53 : decode cX7_learns 53 = .ok (.if_icmp .ge 7, 3) := by decide +kernel
theorem dX7_learns_56 : decode cX7_learns 56 = .ok (.iconst 2, 1) := by decide +kernel
theorem dX7_learns_57 : decode cX7_learns 57 = .ok (.goto 4, 3) := by decide +kernel
theorem dX7_learns_60 : decode cX7_learns 60 = .ok (.iconst 0, 1) := by decide +kernel
theorem dX7_learns_61 : decode cX7_learns 61 = .ok (.invokevirtual 84, 3) := by decide +kernel
theorem dX7_learns_64 : decode cX7_learns 64 = .ok (.istore 5, 2) := by decide +kernel
theorem dX7_learns_66 : decode cX7_learns 66 = .ok (.aload_n 0, 1) := by decide +kernel
theorem dX7_learns_67 : decode cX7_learns 67 = .ok (.iload_n 1, 1) := by decide +kernel
theorem dX7_learns_68 : decode cX7_learns 68 = .ok (.iload 4, 2) := by decide +kernel
theorem dX7_learns_70 : decode cX7_learns 70 = .ok (.iload_n 3, 1) := by decide +kernel
theorem dX7_learns_71 : decode cX7_learns 71 = .ok (.if_icmp .ge 7, 3) := by decide +kernel
theorem dX7_learns_74 : decode cX7_learns 74 = .ok (.iconst 3, 1) := by decide +kernel
theorem dX7_learns_75 : decode cX7_learns 75 = .ok (.goto 4, 3) := by decide +kernel
theorem dX7_learns_78 : decode cX7_learns 78 = .ok (.iconst 1, 1) := by decide +kernel
theorem dX7_learns_79 : decode cX7_learns 79 = .ok (.invokevirtual 84, 3) := by decide +kernel
theorem dX7_learns_82 : decode cX7_learns 82 = .ok (.istore 6, 2) := by decide +kernel
theorem dX7_learns_84 : decode cX7_learns 84 = .ok (.iload 4, 2) := by decide +kernel
theorem dX7_learns_86 : decode cX7_learns 86 = .ok (.iconst 1, 1) := by decide +kernel
theorem dX7_learns_87 : decode cX7_learns 87 = .ok (.iadd, 1) := by decide +kernel
theorem dX7_learns_88 : decode cX7_learns 88 = .ok (.istore 7, 2) := by decide +kernel
theorem dX7_learns_90 : decode cX7_learns 90 = .ok (.iload 7, 2) := by decide +kernel
theorem dX7_learns_92 : decode cX7_learns 92 = .ok (.ifCond .le 43, 3) := by decide +kernel
theorem dX7_learns_95 : decode cX7_learns 95 = .ok (.aload_n 0, 1) := by decide +kernel
theorem dX7_learns_96 : decode cX7_learns 96 = .ok (.getfield 36, 3) := by decide +kernel
theorem dX7_learns_99 : decode cX7_learns 99 = .ok (.iload 7, 2) := by decide +kernel
theorem dX7_learns_101 : decode cX7_learns 101 = .ok (.aload_n 0, 1) := by decide +kernel
theorem dX7_learns_102 : decode cX7_learns 102 = .ok (.iload 5, 2) := by decide +kernel
theorem dX7_learns_104 : decode cX7_learns 104 = .ok (.aload_n 0, 1) := by decide +kernel
theorem dX7_learns_105 : decode cX7_learns 105 = .ok (.getfield 36, 3) := by decide +kernel
theorem dX7_learns_108 : decode cX7_learns 108 = .ok (.iload 7, 2) := by decide +kernel
theorem dX7_learns_110 : decode cX7_learns 110 = .ok (.iaload, 1) := by decide +kernel
theorem dX7_learns_111 : decode cX7_learns 111 = .ok (.imul, 1) := by decide +kernel
theorem dX7_learns_112 : decode cX7_learns 112 = .ok (.iload 6, 2) := by decide +kernel
theorem dX7_learns_114 : decode cX7_learns 114 = .ok (.aload_n 0, 1) := by decide +kernel
theorem dX7_learns_115 : decode cX7_learns 115 = .ok (.getfield 36, 3) := by decide +kernel
theorem dX7_learns_118 : decode cX7_learns 118 = .ok (.iload 7, 2) := by decide +kernel
theorem dX7_learns_120 : decode cX7_learns 120 = .ok (.iconst 1, 1) := by decide +kernel
theorem dX7_learns_121 : decode cX7_learns 121 = .ok (.isub, 1) := by decide +kernel
theorem dX7_learns_122 : decode cX7_learns 122 = .ok (.iaload, 1) := by decide +kernel
theorem dX7_learns_123 : decode cX7_learns 123 = .ok (.imul, 1) := by decide +kernel
theorem dX7_learns_124 : decode cX7_learns 124 = .ok (.iadd, 1) := by decide +kernel
theorem dX7_learns_125 : decode cX7_learns 125 = .ok (.invokevirtual 88, 3) := by decide +kernel
theorem dX7_learns_128 : decode cX7_learns 128 = .ok (.iastore, 1) := by decide +kernel
theorem dX7_learns_129 : decode cX7_learns 129 = .ok (.iinc 7 (-1), 3) := by decide +kernel
theorem dX7_learns_132 : decode cX7_learns 132 = .ok (.goto (-42), 3) := by decide +kernel
theorem dX7_learns_135 : decode cX7_learns 135 = .ok (.aload_n 0, 1) := by decide +kernel
theorem dX7_learns_136 : decode cX7_learns 136 = .ok (.getfield 36, 3) := by decide +kernel
theorem dX7_learns_139 : decode cX7_learns 139 = .ok (.iconst 0, 1) := by decide +kernel
theorem dX7_learns_140 : decode cX7_learns 140 = .ok (.aload_n 0, 1) := by decide +kernel
theorem dX7_learns_141 : decode cX7_learns 141 = .ok (.iload 5, 2) := by decide +kernel
theorem dX7_learns_143 : decode cX7_learns 143 = .ok (.aload_n 0, 1) := by decide +kernel
theorem dX7_learns_144 : decode cX7_learns 144 = .ok (.getfield 36, 3) := by decide +kernel
theorem dX7_learns_147 : decode cX7_learns 147 = .ok (.iconst 0, 1) := by decide +kernel
theorem dX7_learns_148 : decode cX7_learns 148 = .ok (.iaload, 1) := by decide +kernel
theorem dX7_learns_149 : decode cX7_learns 149 = .ok (.imul, 1) := by decide +kernel
theorem dX7_learns_150 : decode cX7_learns 150 = .ok (.invokevirtual 88, 3) := by decide +kernel
theorem dX7_learns_153 : decode cX7_learns 153 = .ok (.iastore, 1) := by decide +kernel
theorem dX7_learns_154 : decode cX7_learns 154 = .ok (.iinc 4 1, 3) := by decide +kernel
theorem dX7_learns_157 : decode cX7_learns 157 = .ok (.goto (-115), 3) := by decide +kernel
theorem dX7_learns_160 : decode cX7_learns 160 = .ok (.iconst 0, 1) := by decide +kernel
theorem dX7_learns_161 : decode cX7_learns 161 = .ok (.istore 4, 2) := by decide +kernel
theorem dX7_learns_163 : decode cX7_learns 163 = .ok (.iload 4, 2) := by decide +kernel
theorem dX7_learns_165 : decode cX7_learns 165 = .ok (.iload_n 2, 1) := by decide +kernel
theorem dX7_learns_166 : decode cX7_learns 166 = .ok (.if_icmp .gt 27, 3) := by decide +kernel
theorem dX7_learns_169 : decode cX7_learns 169 = .ok (.aload_n 0, 1) := by decide +kernel
theorem dX7_learns_170 : decode cX7_learns 170 = .ok (.getfield 30, 3) := by decide +kernel
theorem dX7_learns_173 : decode cX7_learns 173 = .ok (.iconst 5, 1) := by decide +kernel
theorem dX7_learns_174 : decode cX7_learns 174 = .ok (.iload 4, 2) := by decide +kernel
theorem dX7_learns_176 : decode cX7_learns 176 = .ok (.imul, 1) := by decide +kernel
theorem dX7_learns_177 : decode cX7_learns 177 = .ok (.iload_n 3, 1) := by decide +kernel
theorem dX7_learns_178 : decode cX7_learns 178 = .ok (.iadd, 1) := by decide +kernel
theorem dX7_learns_179 : decode cX7_learns 179 = .ok (.aload_n 0, 1) := by decide +kernel
theorem dX7_learns_180 : decode cX7_learns 180 = .ok (.getfield 36, 3) := by decide +kernel
theorem dX7_learns_183 : decode cX7_learns 183 = .ok (.iload 4, 2) := by decide +kernel
theorem dX7_learns_185 : decode cX7_learns 185 = .ok (.iaload, 1) := by decide +kernel
theorem dX7_learns_186 : decode cX7_learns 186 = .ok (.iastore, 1) := by decide +kernel
theorem dX7_learns_187 : decode cX7_learns 187 = .ok (.iinc 4 1, 3) := by decide +kernel
theorem dX7_learns_190 : decode cX7_learns 190 = .ok (.goto (-27), 3) := by decide +kernel
theorem dX7_learns_193 : decode cX7_learns 193 = .ok (.iinc 3 1, 3) := by decide +kernel
theorem dX7_learns_196 : decode cX7_learns 196 = .ok (.goto (-194), 3) := by decide +kernel
theorem dX7_learns_199 : decode cX7_learns 199 = .ok (.return_, 1) := by decide +kernel
set_option maxRecDepth 20000 in
theorem ggX7_made_X7_figure : GoodIn wsX7_made wsX7_figure := goodIn_r _ [7, 2, 8, 9, 10, 6, 11, 16, 17, 18, 19, 20, 21, 22, 23, 24, 25, 26, 27, 28, 29, 30, 31, 32, 33, 34, 35, 36, 37] (by decide +kernel) (by decide +kernel)
set_option maxRecDepth 20000 in
theorem gX7_made_X7_figure : GoodIn wsX7_made (wsV RX7 84 RX7 yX7_figure wsX7_figure) := goodIn_app (goodIn_of _ (by decide +kernel)) ggX7_made_X7_figure
set_option maxRecDepth 20000 in
theorem ggX7_made_X7_mod : GoodIn wsX7_made wsX7_mod := goodIn_r _ [15, 2, 16, 17, 18, 19, 20, 21, 22, 23, 24, 25, 26, 27, 28, 29, 30, 31, 32, 33, 34, 35, 36, 37] (by decide +kernel) (by decide +kernel)
set_option maxRecDepth 20000 in
theorem gX7_made_X7_mod : GoodIn wsX7_made (wsV RX7 88 RX7 yX7_mod wsX7_mod) := goodIn_app (goodIn_of _ (by decide +kernel)) ggX7_made_X7_mod
theorem dX7_made_0 : decode cX7_made 0 = .ok (.iconst 0, 1) := by decide +kernel
theorem dX7_made_1 : decode cX7_made 1 = .ok (.istore_n 3, 1) := by decide +kernel
theorem dX7_made_2 : decode cX7_made 2 = .ok (.iload_n 2, 1) := by decide +kernel
theorem dX7_made_3 : decode cX7_made 3 = .ok (.istore 4, 2) := by decide +kernel
theorem dX7_made_5 : decode cX7_made 5 = .ok (.iload 4, 2) := by decide +kernel
theorem dX7_made_7 : decode cX7_made 7 = .ok (.ifCond .lt 66, 3) := by decide +kernel
theorem dX7_made_10 : decode cX7_made 10 = .ok (.iconst 0, 1) := by decide +kernel
theorem dX7_made_11 : decode cX7_made 11 = .ok (.istore 5, 2) := by decide +kernel
theorem dX7_made_13 : decode cX7_made 13 = .ok (.iconst 0, 1) := by decide +kernel
theorem dX7_made_14 : decode cX7_made 14 = .ok (.istore 6, 2) := by decide +kernel
theorem dX7_made_16 : decode cX7_made 16 = .ok (.iload 6, 2) := by decide +kernel
theorem dX7_made_18 : decode cX7_made 18 = .ok (.iload_n 2, 1) := by decide +kernel
theorem dX7_made_19 : decode cX7_made 19 = .ok (.if_icmp .gt 34, 3) := by decide +kernel
theorem dX7_made_22 : decode cX7_made 22 = .ok (.iload 5, 2) := by decide +kernel
theorem dX7_made_24 : decode cX7_made 24 = .ok (.aload_n 0, 1) := by decide +kernel
theorem dX7_made_25 : decode cX7_made 25 = .ok (.getfield 30, 3) := by decide +kernel
theorem dX7_made_28 : decode cX7_made 28 = .ok (.iconst 5, 1) := by decide +kernel
theorem dX7_made_29 : decode cX7_made 29 = .ok (.iload 4, 2) := by decide +kernel
theorem dX7_made_31 : decode cX7_made 31 = .ok (.imul, 1) := by decide +kernel
theorem dX7_made_32 : decode cX7_made 32 = .ok (.iload 6, 2) := by decide +kernel
theorem dX7_made_34 : decode cX7_made 34 = .ok (.iadd, 1) := by decide +kernel
theorem dX7_made_35 : decode cX7_made 35 = .ok (.iaload, 1) := by decide +kernel
theorem dX7_made_36 : decode cX7_made 36 = .ok (.aload_n 0, 1) := by decide +kernel
theorem dX7_made_37 : decode cX7_made 37 = .ok (.iload_n 1, 1) := by decide +kernel
theorem dX7_made_38 : decode cX7_made 38 = .ok (.iload 6, 2) := by decide +kernel
theorem dX7_made_40 : decode cX7_made 40 = .ok (.invokevirtual 84, 3) := by decide +kernel
theorem dX7_made_43 : decode cX7_made 43 = .ok (.imul, 1) := by decide +kernel
theorem dX7_made_44 : decode cX7_made 44 = .ok (.iadd, 1) := by decide +kernel
theorem dX7_made_45 : decode cX7_made 45 = .ok (.istore 5, 2) := by decide +kernel
theorem dX7_made_47 : decode cX7_made 47 = .ok (.iinc 6 1, 3) := by decide +kernel
theorem dX7_made_50 : decode cX7_made 50 = .ok (.goto (-34), 3) := by decide +kernel
theorem dX7_made_53 : decode cX7_made 53 = .ok (.aload_n 0, 1) := by decide +kernel
theorem dX7_made_54 : decode cX7_made 54 = .ok (.getfield 7, 3) := by decide +kernel
theorem dX7_made_57 : decode cX7_made 57 = .ok (.iload_n 3, 1) := by decide +kernel
theorem dX7_made_58 : decode cX7_made 58 = .ok (.imul, 1) := by decide +kernel
theorem dX7_made_59 : decode cX7_made 59 = .ok (.aload_n 0, 1) := by decide +kernel
theorem dX7_made_60 : decode cX7_made 60 = .ok (.iload 5, 2) := by decide +kernel
theorem dX7_made_62 : decode cX7_made 62 = .ok (.invokevirtual 88, 3) := by decide +kernel
theorem dX7_made_65 : decode cX7_made 65 = .ok (.iadd, 1) := by decide +kernel
theorem dX7_made_66 : decode cX7_made 66 = .ok (.istore_n 3, 1) := by decide +kernel
theorem dX7_made_67 : decode cX7_made 67 = .ok (.iinc 4 (-1), 3) := by decide +kernel
theorem dX7_made_70 : decode cX7_made 70 = .ok (.goto (-65), 3) := by decide +kernel
theorem dX7_made_73 : decode cX7_made 73 = .ok (.iload_n 3, 1) := by decide +kernel
theorem dX7_made_74 : decode cX7_made 74 = .ok (.ireturn, 1) := by decide +kernel
set_option maxRecDepth 20000 in
theorem ggX7_changedBy_X7_generatorCode : GoodIn wsX7_changedBy wsX7_generatorCode := goodIn_r _ [7, 8, 9, 32, 33, 34, 35, 36, 37, 38, 39, 40, 41, 42, 43, 44, 45, 46, 47, 48, 49, 50, 51, 52, 53] (by decide +kernel) (by decide +kernel)
set_option maxRecDepth 20000 in
theorem gX7_changedBy_X7_generatorCode : GoodIn wsX7_changedBy (wsV RX7 117 RX7 yX7_generatorCode wsX7_generatorCode) := goodIn_app (goodIn_of _ (by decide +kernel)) ggX7_changedBy_X7_generatorCode
set_option maxRecDepth 20000 in
theorem ggX7_changedBy_X7_learns : GoodIn wsX7_changedBy wsX7_learns := goodIn_r _ [13, 14, 15, 16, 17, 18, 6, 19, 9, 20, 21, 22, 23, 24, 25, 26, 27, 32, 33, 34, 35, 36, 37, 38, 39, 40, 41, 42, 43, 44, 45, 46, 47, 48, 49, 50, 51, 52, 53] (by decide +kernel) (by decide +kernel)
set_option maxRecDepth 20000 in
theorem gX7_changedBy_X7_learns : GoodIn wsX7_changedBy (wsV RX7 120 RX7 yX7_learns wsX7_learns) := goodIn_app (goodIn_of _ (by decide +kernel)) ggX7_changedBy_X7_learns
set_option maxRecDepth 20000 in
theorem ggX7_changedBy_X7_made : GoodIn wsX7_changedBy wsX7_made := goodIn_r _ [31, 15, 9, 16, 17, 18, 6, 19, 20, 21, 22, 23, 24, 25, 26, 27, 32, 33, 34, 35, 36, 37, 38, 39, 40, 41, 42, 43, 44, 45, 46, 47, 48, 49, 50, 51, 52, 53] (by decide +kernel) (by decide +kernel)
set_option maxRecDepth 20000 in
theorem gX7_changedBy_X7_made : GoodIn wsX7_changedBy (wsV RX7 124 RX7 yX7_made wsX7_made) := goodIn_app (goodIn_of _ (by decide +kernel)) ggX7_changedBy_X7_made
theorem dX7_changedBy_0 : decode cX7_changedBy 0 = .ok (.aload_n 0, 1) := by decide +kernel
theorem dX7_changedBy_1 : decode cX7_changedBy 1 = .ok (.aload_n 0, 1) := by decide +kernel
theorem dX7_changedBy_2 : decode cX7_changedBy 2 = .ok (.iload_n 2, 1) := by decide +kernel
theorem dX7_changedBy_3 : decode cX7_changedBy 3 = .ok (.invokevirtual 117, 3) := by decide +kernel
theorem dX7_changedBy_6 : decode cX7_changedBy 6 = .ok (.aload_n 0, 1) := by decide +kernel
theorem dX7_changedBy_7 : decode cX7_changedBy 7 = .ok (.getfield 13, 3) := by decide +kernel
theorem dX7_changedBy_10 : decode cX7_changedBy 10 = .ok (.iload_n 1, 1) := by decide +kernel
theorem dX7_changedBy_11 : decode cX7_changedBy 11 = .ok (.iaload, 1) := by decide +kernel
theorem dX7_changedBy_12 : decode cX7_changedBy 12 = .ok (.invokevirtual 120, 3) := by decide +kernel
theorem dX7_changedBy_15 : decode cX7_changedBy 15 = .ok (.aload_n 0, 1) := by decide +kernel
theorem dX7_changedBy_16 : decode cX7_changedBy 16 = .ok (.aload_n 0, 1) := by decide +kernel
theorem dX7_changedBy_17 : decode cX7_changedBy 17 = .ok (.getfield 17, 3) := by decide +kernel
theorem dX7_changedBy_20 : decode cX7_changedBy 20 = .ok (.iload_n 1, 1) := by decide +kernel
theorem dX7_changedBy_21 : decode cX7_changedBy 21 = .ok (.iaload, 1) := by decide +kernel
theorem dX7_changedBy_22 : decode cX7_changedBy 22 = .ok (.aload_n 0, 1) := by decide +kernel
theorem dX7_changedBy_23 : decode cX7_changedBy 23 = .ok (.getfield 13, 3) := by decide +kernel
theorem dX7_changedBy_26 : decode cX7_changedBy 26 = .ok (.iload_n 1, 1) := by decide +kernel
theorem dX7_changedBy_27 : decode cX7_changedBy 27 = .ok (.iaload, 1) := by decide +kernel
theorem dX7_changedBy_28 : decode cX7_changedBy 28 = .ok (.invokevirtual 124, 3) := by decide +kernel
theorem dX7_changedBy_31 : decode cX7_changedBy 31 = .ok (.ireturn, 1) := by decide +kernel
set_option maxRecDepth 20000 in
theorem ggX7_changed_X7_isForm : GoodIn wsX7_changed wsX7_isForm := goodIn_r _ [6, 7, 8, 9, 5, 10, 50, 51, 52, 53, 54, 55, 56, 57, 58, 59, 60, 61, 62, 63, 64, 65, 66, 67, 68, 69, 70, 71] (by decide +kernel) (by decide +kernel)
set_option maxRecDepth 20000 in
theorem gX7_changed_X7_isForm : GoodIn wsX7_changed (wsV RX7 91 RX7 yX7_isForm wsX7_isForm) := goodIn_app (goodIn_of _ (by decide +kernel)) ggX7_changed_X7_isForm
set_option maxRecDepth 20000 in
theorem ggX7_changed_X7_isIn : GoodIn wsX7_changed wsX7_isIn := goodIn_r _ [10] (by decide +kernel) (by decide +kernel)
set_option maxRecDepth 20000 in
theorem gX7_changed_X7_isIn : GoodIn wsX7_changed (va_wsS RX7 66 yX7_isIn wsX7_isIn) := goodIn_app (goodIn_of _ (by decide +kernel)) ggX7_changed_X7_isIn
set_option maxRecDepth 20000 in
theorem ggX7_changed_X7_holds : GoodIn wsX7_changed wsX7_holds := goodIn_r _ [14, 15, 50, 51, 52, 53, 54, 55, 56, 57, 58, 59, 60, 61, 62, 63, 64, 65, 66, 67, 68, 69, 70, 71] (by decide +kernel) (by decide +kernel)
set_option maxRecDepth 20000 in
theorem gX7_changed_X7_holds : GoodIn wsX7_changed (wsV RX7 74 RX7 yX7_holds wsX7_holds) := goodIn_app (goodIn_of _ (by decide +kernel)) ggX7_changed_X7_holds
set_option maxRecDepth 20000 in
theorem ggX7_changed_X7_changedBy : GoodIn wsX7_changed wsX7_changedBy := goodIn_r _ [19, 20, 21, 22, 23, 24, 5, 25, 26, 27, 28, 29, 30, 31, 32, 33, 34, 35, 36, 37, 38, 39, 40, 41, 42, 43, 44, 45, 46, 47, 48, 49, 50, 51, 52, 53, 54, 55, 56, 57, 58, 59, 60, 61, 62, 63, 64, 65, 66, 67, 68, 69, 70, 71] (by decide +kernel) (by decide +kernel)
set_option maxRecDepth 20000 in
theorem gX7_changed_X7_changedBy : GoodIn wsX7_changed (wsV RX7 127 RX7 yX7_changedBy wsX7_changedBy) := goodIn_app (goodIn_of _ (by decide +kernel)) ggX7_changed_X7_changedBy
theorem dX7_changed_0 : decode cX7_changed 0 = .ok (.aload_n 0, 1) := by decide +kernel
theorem dX7_changed_1 : decode cX7_changed 1 = .ok (.aload_n 0, 1) := by decide +kernel
theorem dX7_changed_2 : decode cX7_changed 2 = .ok (.iload_n 1, 1) := by decide +kernel
theorem dX7_changed_3 : decode cX7_changed 3 = .ok (.invokevirtual 91, 3) := by decide +kernel
theorem dX7_changed_6 : decode cX7_changed 6 = .ok (.ifCond .eq 21, 3) := by decide +kernel
theorem dX7_changed_9 : decode cX7_changed 9 = .ok (.iload_n 2, 1) := by decide +kernel
theorem dX7_changed_10 : decode cX7_changed 10 = .ok (.iconst 0, 1) := by decide +kernel
theorem dX7_changed_11 : decode cX7_changed 11 = .ok (.aload_n 0, 1) := by decide +kernel
theorem dX7_changed_12 : decode cX7_changed 12 = .ok (.getfield 78, 3) := by decide +kernel
theorem dX7_changed_15 : decode cX7_changed 15 = .ok (.iconst 1, 1) := by decide +kernel
theorem dX7_changed_16 : decode cX7_changed 16 = .ok (.isub, 1) := by decide +kernel
theorem dX7_changed_17 : decode cX7_changed 17 = .ok (.invokestatic 66, 3) := by decide +kernel
theorem dX7_changed_20 : decode cX7_changed 20 = .ok (.ifCond .eq 7, 3) := by decide +kernel
theorem dX7_changed_23 : decode cX7_changed 23 = .ok (.iconst 0, 1) := by decide +kernel
theorem dX7_changed_24 : decode cX7_changed 24 = .ok (.goto 4, 3) := by decide +kernel
theorem dX7_changed_27 : decode cX7_changed 27 = .ok (.iconst 1, 1) := by decide +kernel
theorem dX7_changed_28 : decode cX7_changed 28 = .ok (.invokevirtual 74, 3) := by decide +kernel
theorem dX7_changed_31 : decode cX7_changed 31 = .ok (.ifCond .eq 12, 3) := by decide +kernel
theorem dX7_changed_34 : decode cX7_changed 34 = .ok (.aload_n 0, 1) := by decide +kernel
theorem dX7_changed_35 : decode cX7_changed 35 = .ok (.iload_n 1, 1) := by decide +kernel
theorem dX7_changed_36 : decode cX7_changed 36 = .ok (.iload_n 2, 1) := by decide +kernel
theorem dX7_changed_37 : decode cX7_changed 37 = .ok (.invokevirtual 127, 3) := by decide +kernel
theorem dX7_changed_40 : decode cX7_changed 40 = .ok (.goto 4, 3) := by decide +kernel
theorem dX7_changed_43 : decode cX7_changed 43 = .ok (.iconst 0, 1) := by decide +kernel
theorem dX7_changed_44 : decode cX7_changed 44 = .ok (.ireturn, 1) := by decide +kernel
set_option maxRecDepth 20000 in
theorem ggX7_isFixed_X7_changedBy : GoodIn wsX7_isFixed wsX7_changedBy := goodIn_r _ [7, 8, 2, 9, 10, 11, 6, 12, 13, 14, 15, 16, 17, 18, 19, 20, 21, 22, 23, 24, 25, 26, 27, 28, 29, 30, 31, 32, 33, 34, 35, 36, 37, 38, 39, 40, 41, 42, 43, 44, 45, 46, 47, 48, 49, 50, 51, 52, 53, 54, 55, 56, 57, 58] (by decide +kernel) (by decide +kernel)
set_option maxRecDepth 20000 in
theorem gX7_isFixed_X7_changedBy : GoodIn wsX7_isFixed (wsV RX7 127 RX7 yX7_changedBy wsX7_changedBy) := goodIn_app (goodIn_of _ (by decide +kernel)) ggX7_isFixed_X7_changedBy
theorem dX7_isFixed_0 : decode cX7_isFixed 0 = .ok (.iconst 1, 1) := by decide +kernel
theorem dX7_isFixed_1 : decode cX7_isFixed 1 = .ok (.istore_n 2, 1) := by decide +kernel
theorem dX7_isFixed_2 : decode cX7_isFixed 2 = .ok (.iconst 0, 1) := by decide +kernel
theorem dX7_isFixed_3 : decode cX7_isFixed 3 = .ok (.istore_n 3, 1) := by decide +kernel
theorem dX7_isFixed_4 : decode cX7_isFixed 4 = .ok (.iload_n 3, 1) := by decide +kernel
theorem dX7_isFixed_5 : decode cX7_isFixed 5 = .ok (.aload_n 0, 1) := by decide +kernel
theorem dX7_isFixed_6 : decode cX7_isFixed 6 = .ok (.getfield 78, 3) := by decide +kernel
theorem dX7_isFixed_9 : decode cX7_isFixed 9 = .ok (.if_icmp .ge 34, 3) := by decide +kernel
theorem dX7_isFixed_12 : decode cX7_isFixed 12 = .ok (.iload_n 2, 1) := by decide +kernel
theorem dX7_isFixed_13 : decode cX7_isFixed 13 = .ok (.ifCond .eq 22, 3) := by decide +kernel
theorem dX7_isFixed_16 : decode cX7_isFixed 16 = .ok (.aload_n 0, 1) := by decide +kernel
theorem dX7_isFixed_17 : decode cX7_isFixed 17 = .ok (.iload_n 1, 1) := by decide +kernel
theorem dX7_isFixed_18 : decode cX7_isFixed 18 = .ok (.iload_n 3, 1) := by decide +kernel
theorem dX7_isFixed_19 : decode cX7_isFixed 19 = .ok (.invokevirtual 127, 3) := by decide +kernel
theorem dX7_isFixed_22 : decode cX7_isFixed 22 = .ok (.aload_n 0, 1) := by decide +kernel
theorem dX7_isFixed_23 : decode cX7_isFixed 23 = .ok (.getfield 17, 3) := by decide +kernel
theorem dX7_isFixed_26 : decode cX7_isFixed 26 = .ok (.iload_n 1, 1) := by decide +kernel
theorem dX7_isFixed_27 : decode cX7_isFixed 27 = .ok (.iaload, 1) := by decide +kernel
theorem dX7_isFixed_28 : decode cX7_isFixed 28 = .ok (.if_icmp .ne 7, 3) := by decide +kernel
theorem dX7_isFixed_31 : decode cX7_isFixed 31 = .ok (.iconst 1, 1) := by decide +kernel
theorem dX7_isFixed_32 : decode cX7_isFixed 32 = .ok (.goto 4, 3) := by decide +kernel
theorem dX7_isFixed_35 : decode cX7_isFixed 35 = .ok (.iconst 0, 1) := by decide +kernel
theorem dX7_isFixed_36 : decode cX7_isFixed 36 = .ok (.istore_n 2, 1) := by decide +kernel
theorem dX7_isFixed_37 : decode cX7_isFixed 37 = .ok (.iinc 3 1, 3) := by decide +kernel
theorem dX7_isFixed_40 : decode cX7_isFixed 40 = .ok (.goto (-36), 3) := by decide +kernel
theorem dX7_isFixed_43 : decode cX7_isFixed 43 = .ok (.iload_n 2, 1) := by decide +kernel
theorem dX7_isFixed_44 : decode cX7_isFixed 44 = .ok (.ifCond .eq 7, 3) := by decide +kernel
theorem dX7_isFixed_47 : decode cX7_isFixed 47 = .ok (.iconst 1, 1) := by decide +kernel
theorem dX7_isFixed_48 : decode cX7_isFixed 48 = .ok (.goto 4, 3) := by decide +kernel
theorem dX7_isFixed_51 : decode cX7_isFixed 51 = .ok (.iconst 0, 1) := by decide +kernel
theorem dX7_isFixed_52 : decode cX7_isFixed 52 = .ok (.ireturn, 1) := by decide +kernel
set_option maxRecDepth 20000 in
theorem ggX7_inverse_X7_mod : GoodIn wsX7_inverse wsX7_mod := goodIn_r _ [6, 1, 7, 8, 9, 10, 11, 12, 13, 14, 15, 16, 17, 18, 19, 20, 21, 22, 23, 24, 25, 26, 27, 28] (by decide +kernel) (by decide +kernel)
set_option maxRecDepth 20000 in
theorem gX7_inverse_X7_mod : GoodIn wsX7_inverse (wsV RX7 88 RX7 yX7_mod wsX7_mod) := goodIn_app (goodIn_of _ (by decide +kernel)) ggX7_inverse_X7_mod
theorem dX7_inverse_0 : decode cX7_inverse 0 = .ok (.iconst 0, 1) := by decide +kernel
theorem dX7_inverse_1 : decode cX7_inverse 1 = .ok (.istore_n 2, 1) := by decide +kernel
theorem dX7_inverse_2 : decode cX7_inverse 2 = .ok (.iconst 1, 1) := by decide +kernel
theorem dX7_inverse_3 : decode cX7_inverse 3 = .ok (.istore_n 3, 1) := by decide +kernel
theorem dX7_inverse_4 : decode cX7_inverse 4 = .ok (.iload_n 3, 1) := by decide +kernel
theorem dX7_inverse_5 : decode cX7_inverse 5 = .ok (.aload_n 0, 1) := by decide +kernel
theorem dX7_inverse_6 : decode cX7_inverse 6 = .ok (.getfield 7, 3) := by decide +kernel
theorem dX7_inverse_9 : decode cX7_inverse 9 = .ok (.if_icmp .ge 26, 3) := by decide +kernel
theorem dX7_inverse_12 : decode cX7_inverse 12 = .ok (.aload_n 0, 1) := by decide +kernel
theorem dX7_inverse_13 : decode cX7_inverse 13 = .ok (.iload_n 3, 1) := by decide +kernel
theorem dX7_inverse_14 : decode cX7_inverse 14 = .ok (.iload_n 1, 1) := by decide +kernel
theorem dX7_inverse_15 : decode cX7_inverse 15 = .ok (.imul, 1) := by decide +kernel
theorem dX7_inverse_16 : decode cX7_inverse 16 = .ok (.invokevirtual 88, 3) := by decide +kernel
theorem dX7_inverse_19 : decode cX7_inverse 19 = .ok (.iconst 1, 1) := by decide +kernel
theorem dX7_inverse_20 : decode cX7_inverse 20 = .ok (.if_icmp .ne 7, 3) := by decide +kernel
theorem dX7_inverse_23 : decode cX7_inverse 23 = .ok (.iload_n 3, 1) := by decide +kernel
theorem dX7_inverse_24 : decode cX7_inverse 24 = .ok (.goto 4, 3) := by decide +kernel
theorem dX7_inverse_27 : decode cX7_inverse 27 = .ok (.iload_n 2, 1) := by decide +kernel
theorem dX7_inverse_28 : decode cX7_inverse 28 = .ok (.istore_n 2, 1) := by decide +kernel
theorem dX7_inverse_29 : decode cX7_inverse 29 = .ok (.iinc 3 1, 3) := by decide +kernel
theorem dX7_inverse_32 : decode cX7_inverse 32 = .ok (.goto (-28), 3) := by decide +kernel
theorem dX7_inverse_35 : decode cX7_inverse 35 = .ok (.iload_n 2, 1) := by decide +kernel
theorem dX7_inverse_36 : decode cX7_inverse 36 = .ok (.ireturn, 1) := by decide +kernel
set_option maxRecDepth 20000 in
theorem ggX7_averageOf_X7_gathers : GoodIn wsX7_averageOf wsX7_gathers := goodIn_r _ [11, 12, 2, 6, 13, 4, 14, 15, 16, 10, 17, 18, 19, 20, 21, 22, 23, 24, 25, 26, 27, 28, 29, 30, 31, 32, 33, 34, 49, 50, 51, 52, 53, 54, 55, 56, 57, 58, 59, 60, 61, 62, 63, 64, 65, 66, 67, 68, 69, 70] (by decide +kernel) (by decide +kernel)
set_option maxRecDepth 20000 in
theorem gX7_averageOf_X7_gathers : GoodIn wsX7_averageOf (wsV RX7 114 RX7 yX7_gathers wsX7_gathers) := goodIn_app (goodIn_of _ (by decide +kernel)) ggX7_averageOf_X7_gathers
set_option maxRecDepth 20000 in
theorem ggX7_averageOf_X7_mod : GoodIn wsX7_averageOf wsX7_mod := goodIn_r _ [34, 6, 49, 50, 51, 52, 53, 54, 55, 56, 57, 58, 59, 60, 61, 62, 63, 64, 65, 66, 67, 68, 69, 70] (by decide +kernel) (by decide +kernel)
set_option maxRecDepth 20000 in
theorem gX7_averageOf_X7_mod : GoodIn wsX7_averageOf (wsV RX7 88 RX7 yX7_mod wsX7_mod) := goodIn_app (goodIn_of _ (by decide +kernel)) ggX7_averageOf_X7_mod
set_option maxRecDepth 20000 in
theorem ggX7_averageOf_X7_inverse : GoodIn wsX7_averageOf wsX7_inverse := goodIn_r _ [38, 6, 31, 32, 33, 10, 34, 49, 50, 51, 52, 53, 54, 55, 56, 57, 58, 59, 60, 61, 62, 63, 64, 65, 66, 67, 68, 69, 70] (by decide +kernel) (by decide +kernel)
set_option maxRecDepth 20000 in
theorem gX7_averageOf_X7_inverse : GoodIn wsX7_averageOf (wsV RX7 130 RX7 yX7_inverse wsX7_inverse) := goodIn_app (goodIn_of _ (by decide +kernel)) ggX7_averageOf_X7_inverse
set_option maxRecDepth 20000 in
theorem ggX7_averageOf_X7_learns : GoodIn wsX7_averageOf wsX7_learns := goodIn_r _ [42, 43, 44, 23, 24, 25, 10, 26, 6, 27, 28, 29, 30, 31, 32, 33, 34, 49, 50, 51, 52, 53, 54, 55, 56, 57, 58, 59, 60, 61, 62, 63, 64, 65, 66, 67, 68, 69, 70] (by decide +kernel) (by decide +kernel)
set_option maxRecDepth 20000 in
theorem gX7_averageOf_X7_learns : GoodIn wsX7_averageOf (wsV RX7 120 RX7 yX7_learns wsX7_learns) := goodIn_app (goodIn_of _ (by decide +kernel)) ggX7_averageOf_X7_learns
set_option maxRecDepth 20000 in
theorem ggX7_averageOf_X7_made : GoodIn wsX7_averageOf wsX7_made := goodIn_r _ [48, 44, 6, 23, 24, 25, 10, 26, 27, 28, 29, 30, 31, 32, 33, 34, 49, 50, 51, 52, 53, 54, 55, 56, 57, 58, 59, 60, 61, 62, 63, 64, 65, 66, 67, 68, 69, 70] (by decide +kernel) (by decide +kernel)
set_option maxRecDepth 20000 in
theorem gX7_averageOf_X7_made : GoodIn wsX7_averageOf (wsV RX7 124 RX7 yX7_made wsX7_made) := goodIn_app (goodIn_of _ (by decide +kernel)) ggX7_averageOf_X7_made
set_option maxRecDepth 20000 in
theorem ggX7_averageOf_X7_figure : GoodIn wsX7_averageOf wsX7_figure := goodIn_r _ [26, 6, 27, 28, 29, 10, 30, 49, 50, 51, 52, 53, 54, 55, 56, 57, 58, 59, 60, 61, 62, 63, 64, 65, 66, 67, 68, 69, 70] (by decide +kernel) (by decide +kernel)
set_option maxRecDepth 20000 in
theorem gX7_averageOf_X7_figure : GoodIn wsX7_averageOf (wsV RX7 84 RX7 yX7_figure wsX7_figure) := goodIn_app (goodIn_of _ (by decide +kernel)) ggX7_averageOf_X7_figure
theorem dX7_averageOf_0 : decode cX7_averageOf 0 = .ok (.aload_n 0, 1) := by decide +kernel
theorem dX7_averageOf_1 : decode cX7_averageOf 1 = .ok (.invokevirtual 114, 3) := by decide +kernel
theorem dX7_averageOf_4 : decode cX7_averageOf 4 = .ok (.aload_n 0, 1) := by decide +kernel
theorem dX7_averageOf_5 : decode cX7_averageOf 5 = .ok (.getfield 13, 3) := by decide +kernel
theorem dX7_averageOf_8 : decode cX7_averageOf 8 = .ok (.iload_n 1, 1) := by decide +kernel
theorem dX7_averageOf_9 : decode cX7_averageOf 9 = .ok (.iaload, 1) := by decide +kernel
theorem dX7_averageOf_10 : decode cX7_averageOf 10 = .ok (.istore_n 2, 1) := by decide +kernel
theorem dX7_averageOf_11 : decode cX7_averageOf 11 = .ok (.aload_n 0, 1) := by decide +kernel
theorem dX7_averageOf_12 : decode cX7_averageOf 12 = .ok (.aload_n 0, 1) := by decide +kernel
theorem dX7_averageOf_13 : decode cX7_averageOf 13 = .ok (.aload_n 0, 1) := by decide +kernel
theorem dX7_averageOf_14 : decode cX7_averageOf 14 = .ok (.getfield 104, 3) := by decide +kernel
theorem dX7_averageOf_17 : decode cX7_averageOf 17 = .ok (.invokevirtual 88, 3) := by decide +kernel
theorem dX7_averageOf_20 : decode cX7_averageOf 20 = .ok (.invokevirtual 130, 3) := by decide +kernel
theorem dX7_averageOf_23 : decode cX7_averageOf 23 = .ok (.istore_n 3, 1) := by decide +kernel
theorem dX7_averageOf_24 : decode cX7_averageOf 24 = .ok (.iconst 0, 1) := by decide +kernel
theorem dX7_averageOf_25 : decode cX7_averageOf 25 = .ok (.istore 4, 2) := by decide +kernel
theorem dX7_averageOf_27 : decode cX7_averageOf 27 = .ok (.iload 4, 2) := by decide +kernel
theorem dX7_averageOf_29 : decode cX7_averageOf 29 = .ok (.iload_n 2, 1) := by decide +kernel
theorem dX7_averageOf_30 : decode cX7_averageOf 30 = .ok (.if_icmp .gt 17, 3) := by decide +kernel
theorem dX7_averageOf_33 : decode cX7_averageOf 33 = .ok (.aload_n 0, 1) := by decide +kernel
theorem dX7_averageOf_34 : decode cX7_averageOf 34 = .ok (.getfield 45, 3) := by decide +kernel
theorem dX7_averageOf_37 : decode cX7_averageOf 37 = .ok (.iload 4, 2) := by decide +kernel
theorem dX7_averageOf_39 : decode cX7_averageOf 39 = .ok (.iconst 0, 1) := by decide +kernel
theorem dX7_averageOf_40 : decode cX7_averageOf 40 = .ok (.iastore, 1) := by decide +kernel
theorem dX7_averageOf_41 : decode cX7_averageOf 41 = .ok (.iinc 4 1, 3) := by decide +kernel
theorem dX7_averageOf_44 : decode cX7_averageOf 44 = .ok (.goto (-17), 3) := by decide +kernel
theorem dX7_averageOf_47 : decode cX7_averageOf 47 = .ok (.iconst 0, 1) := by decide +kernel
theorem dX7_averageOf_48 : decode cX7_averageOf 48 = .ok (.istore 4, 2) := by decide +kernel
theorem dX7_averageOf_50 : decode cX7_averageOf 50 = .ok (.iload 4, 2) := by decide +kernel
theorem dX7_averageOf_52 : decode cX7_averageOf 52 = .ok (.aload_n 0, 1) := by decide +kernel
theorem dX7_averageOf_53 : decode cX7_averageOf 53 = .ok (.getfield 104, 3) := by decide +kernel
theorem dX7_averageOf_56 : decode cX7_averageOf 56 = .ok (.if_icmp .ge 67, 3) := by decide +kernel
theorem dX7_averageOf_59 : decode cX7_averageOf 59 = .ok (.aload_n 0, 1) := by decide +kernel
theorem dX7_averageOf_60 : decode cX7_averageOf 60 = .ok (.aload_n 0, 1) := by decide +kernel
theorem dX7_averageOf_61 : decode cX7_averageOf 61 = .ok (.getfield 27, 3) := by decide +kernel
theorem dX7_averageOf_64 : decode cX7_averageOf 64 = .ok (.iload 4, 2) := by decide +kernel
theorem dX7_averageOf_66 : decode cX7_averageOf 66 = .ok (.iaload, 1) := by decide +kernel
theorem dX7_averageOf_67 : decode cX7_averageOf 67 = .ok (.iload_n 2, 1) := by decide +kernel
theorem dX7_averageOf_68 : decode cX7_averageOf 68 = .ok (.invokevirtual 120, 3) := by decide +kernel
theorem dX7_averageOf_71 : decode cX7_averageOf 71 = .ok (.aload_n 0, 1) := by decide +kernel
theorem dX7_averageOf_72 : decode cX7_averageOf 72 = .ok (.aload_n 0, 1) := by decide +kernel
theorem dX7_averageOf_73 : decode cX7_averageOf 73 = .ok (.getfield 17, 3) := by decide +kernel
theorem dX7_averageOf_76 : decode cX7_averageOf 76 = .ok (.iload_n 1, 1) := by decide +kernel
theorem dX7_averageOf_77 : decode cX7_averageOf 77 = .ok (.iaload, 1) := by decide +kernel
theorem dX7_averageOf_78 : decode cX7_averageOf 78 = .ok (.iload_n 2, 1) := by decide +kernel
theorem dX7_averageOf_79 : decode cX7_averageOf 79 = .ok (.invokevirtual 124, 3) := by decide +kernel
theorem dX7_averageOf_82 : decode cX7_averageOf 82 = .ok (.istore 5, 2) := by decide +kernel
theorem dX7_averageOf_84 : decode cX7_averageOf 84 = .ok (.iconst 0, 1) := by decide +kernel
theorem dX7_averageOf_85 : decode cX7_averageOf 85 = .ok (.istore 6, 2) := by decide +kernel
theorem dX7_averageOf_87 : decode cX7_averageOf 87 = .ok (.iload 6, 2) := by decide +kernel
theorem dX7_averageOf_89 : decode cX7_averageOf 89 = .ok (.iload_n 2, 1) := by decide +kernel
theorem dX7_averageOf_90 : decode cX7_averageOf 90 = .ok (.if_icmp .gt 27, 3) := by decide +kernel
theorem dX7_averageOf_93 : decode cX7_averageOf 93 = .ok (.aload_n 0, 1) := by decide +kernel
theorem dX7_averageOf_94 : decode cX7_averageOf 94 = .ok (.getfield 45, 3) := by decide +kernel
theorem dX7_averageOf_97 : decode cX7_averageOf 97 = .ok (.iload 6, 2) := by decide +kernel
theorem dX7_averageOf_99 : decode cX7_averageOf 99 = .ok (.dup2, 1) := by decide +kernel
theorem dX7_averageOf_100 : decode cX7_averageOf 100 = .ok (.iaload, 1) := by decide +kernel
theorem dX7_averageOf_101 : decode cX7_averageOf 101 = .ok (.aload_n 0, 1) := by decide +kernel
theorem dX7_averageOf_102 : decode cX7_averageOf 102 = .ok (.iload 5, 2) := by decide +kernel
theorem dX7_averageOf_104 : decode cX7_averageOf 104 = .ok (.iload 6, 2) := by decide +kernel
theorem dX7_averageOf_106 : decode cX7_averageOf 106 = .ok (.invokevirtual 84, 3) := by decide +kernel
theorem dX7_averageOf_109 : decode cX7_averageOf 109 = .ok (.iadd, 1) := by decide +kernel
theorem dX7_averageOf_110 : decode cX7_averageOf 110 = .ok (.iastore, 1) := by decide +kernel
theorem dX7_averageOf_111 : decode cX7_averageOf 111 = .ok (.iinc 6 1, 3) := by decide +kernel
theorem dX7_averageOf_114 : decode cX7_averageOf 114 = .ok (.goto (-27), 3) := by decide +kernel
theorem dX7_averageOf_117 : decode cX7_averageOf 117 = .ok (.iinc 4 1, 3) := by decide +kernel
theorem dX7_averageOf_120 : decode cX7_averageOf 120 = .ok (.goto (-70), 3) := by decide +kernel
theorem dX7_averageOf_123 : decode cX7_averageOf 123 = .ok (.iconst 0, 1) := by decide +kernel
theorem dX7_averageOf_124 : decode cX7_averageOf 124 = .ok (.istore 4, 2) := by decide +kernel
theorem dX7_averageOf_126 : decode cX7_averageOf 126 = .ok (.iload_n 2, 1) := by decide +kernel
theorem dX7_averageOf_127 : decode cX7_averageOf 127 = .ok (.istore 5, 2) := by decide +kernel
theorem dX7_averageOf_129 : decode cX7_averageOf 129 = .ok (.iload 5, 2) := by decide +kernel
theorem dX7_averageOf_131 : decode cX7_averageOf 131 = .ok (.ifCond .lt 36, 3) := by decide +kernel
theorem dX7_averageOf_134 : decode cX7_averageOf 134 = .ok (.aload_n 0, 1) := by decide +kernel
theorem dX7_averageOf_135 : decode cX7_averageOf 135 = .ok (.getfield 7, 3) := by decide +kernel
theorem dX7_averageOf_138 : decode cX7_averageOf 138 = .ok (.iload 4, 2) := by decide +kernel
theorem dX7_averageOf_140 : decode cX7_averageOf 140 = .ok (.imul, 1) := by decide +kernel
theorem dX7_averageOf_141 : decode cX7_averageOf 141 = .ok (.aload_n 0, 1) := by decide +kernel
theorem dX7_averageOf_142 : decode cX7_averageOf 142 = .ok (.aload_n 0, 1) := by decide +kernel
theorem dX7_averageOf_143 : decode cX7_averageOf 143 = .ok (.aload_n 0, 1) := by decide +kernel
theorem dX7_averageOf_144 : decode cX7_averageOf 144 = .ok (.getfield 45, 3) := by decide +kernel
theorem dX7_averageOf_147 : decode cX7_averageOf 147 = .ok (.iload 5, 2) := by decide +kernel
theorem dX7_averageOf_149 : decode cX7_averageOf 149 = .ok (.iaload, 1) := by decide +kernel
theorem dX7_averageOf_150 : decode cX7_averageOf 150 = .ok (.invokevirtual 88, 3) := by decide +kernel
theorem dX7_averageOf_153 : decode cX7_averageOf 153 = .ok (.iload_n 3, 1) := by decide +kernel
theorem dX7_averageOf_154 : decode cX7_averageOf 154 = .ok (.imul, 1) := by decide +kernel
theorem dX7_averageOf_155 : decode cX7_averageOf 155 = .ok (.invokevirtual 88, 3) := by decide +kernel
theorem dX7_averageOf_158 : decode cX7_averageOf 158 = .ok (.iadd, 1) := by decide +kernel
theorem dX7_averageOf_159 : decode cX7_averageOf 159 = .ok (.istore 4, 2) := by decide +kernel
theorem dX7_averageOf_161 : decode cX7_averageOf 161 = .ok (.iinc 5 (-1), 3) := by decide +kernel
theorem dX7_averageOf_164 : decode cX7_averageOf 164 = .ok (.goto (-35), 3) := by decide +kernel
theorem dX7_averageOf_167 : decode cX7_averageOf 167 = .ok (.iload_n 3, 1) := by decide +kernel
theorem dX7_averageOf_168 : decode cX7_averageOf 168 = .ok (.ifCond .ne 7, 3) := by decide +kernel
theorem dX7_averageOf_171 : decode cX7_averageOf 171 = .ok (.iconst (-1), 1) := by decide +kernel
theorem dX7_averageOf_172 : decode cX7_averageOf 172 = .ok (.goto 5, 3) := by decide +kernel
theorem dX7_averageOf_175 : decode cX7_averageOf 175 = .ok (.iload 4, 2) := by decide +kernel
theorem dX7_averageOf_177 : decode cX7_averageOf 177 = .ok (.ireturn, 1) := by decide +kernel
set_option maxRecDepth 20000 in
theorem ggX7_average_X7_isForm : GoodIn wsX7_average wsX7_isForm := goodIn_r _ [5, 6, 7, 8, 4, 9, 66, 67, 68, 69, 70, 71, 72, 73, 74, 75, 76, 77, 78, 79, 80, 81, 82, 83, 84, 85, 86, 87] (by decide +kernel) (by decide +kernel)
set_option maxRecDepth 20000 in
theorem gX7_average_X7_isForm : GoodIn wsX7_average (wsV RX7 91 RX7 yX7_isForm wsX7_isForm) := goodIn_app (goodIn_of _ (by decide +kernel)) ggX7_average_X7_isForm
set_option maxRecDepth 20000 in
theorem ggX7_average_X7_holds : GoodIn wsX7_average wsX7_holds := goodIn_r _ [13, 14, 66, 67, 68, 69, 70, 71, 72, 73, 74, 75, 76, 77, 78, 79, 80, 81, 82, 83, 84, 85, 86, 87] (by decide +kernel) (by decide +kernel)
set_option maxRecDepth 20000 in
theorem gX7_average_X7_holds : GoodIn wsX7_average (wsV RX7 74 RX7 yX7_holds wsX7_holds) := goodIn_app (goodIn_of _ (by decide +kernel)) ggX7_average_X7_holds
set_option maxRecDepth 20000 in
theorem ggX7_average_X7_averageOf : GoodIn wsX7_average wsX7_averageOf := goodIn_r _ [18, 19, 20, 21, 22, 23, 24, 25, 26, 27, 4, 28, 29, 30, 31, 32, 33, 34, 35, 36, 37, 38, 39, 40, 41, 42, 43, 44, 45, 46, 47, 48, 49, 50, 51, 52, 53, 54, 55, 56, 57, 58, 59, 60, 61, 62, 63, 64, 65, 66, 67, 68, 69, 70, 71, 72, 73, 74, 75, 76, 77, 78, 79, 80, 81, 82, 83, 84, 85, 86, 87] (by decide +kernel) (by decide +kernel)
set_option maxRecDepth 20000 in
theorem gX7_average_X7_averageOf : GoodIn wsX7_average (wsV RX7 133 RX7 yX7_averageOf wsX7_averageOf) := goodIn_app (goodIn_of _ (by decide +kernel)) ggX7_average_X7_averageOf
theorem dX7_average_0 : decode cX7_average 0 = .ok (.aload_n 0, 1) := by decide +kernel
theorem dX7_average_1 : decode cX7_average 1 = .ok (.aload_n 0, 1) := by decide +kernel
theorem dX7_average_2 : decode cX7_average 2 = .ok (.iload_n 1, 1) := by decide +kernel
theorem dX7_average_3 : decode cX7_average 3 = .ok (.invokevirtual 91, 3) := by decide +kernel
theorem dX7_average_6 : decode cX7_average 6 = .ok (.ifCond .eq 7, 3) := by decide +kernel
theorem dX7_average_9 : decode cX7_average 9 = .ok (.iconst 0, 1) := by decide +kernel
theorem dX7_average_10 : decode cX7_average 10 = .ok (.goto 4, 3) := by decide +kernel
theorem dX7_average_13 : decode cX7_average 13 = .ok (.iconst 1, 1) := by decide +kernel
theorem dX7_average_14 : decode cX7_average 14 = .ok (.invokevirtual 74, 3) := by decide +kernel
theorem dX7_average_17 : decode cX7_average 17 = .ok (.ifCond .eq 11, 3) := by decide +kernel
theorem dX7_average_20 : decode cX7_average 20 = .ok (.aload_n 0, 1) := by decide +kernel
theorem dX7_average_21 : decode cX7_average 21 = .ok (.iload_n 1, 1) := by decide +kernel
theorem dX7_average_22 : decode cX7_average 22 = .ok (.invokevirtual 133, 3) := by decide +kernel
theorem dX7_average_25 : decode cX7_average 25 = .ok (.goto 4, 3) := by decide +kernel
theorem dX7_average_28 : decode cX7_average 28 = .ok (.iconst 0, 1) := by decide +kernel
theorem dX7_average_29 : decode cX7_average 29 = .ok (.ireturn, 1) := by decide +kernel
set_option maxRecDepth 20000 in
theorem ggX7_laysRows_X7_mod : GoodIn wsX7_laysRows wsX7_mod := goodIn_r _ [8, 9, 10, 11, 12, 13, 14, 15, 16, 17, 18, 19, 20, 21, 22, 23, 24, 25, 26, 27, 28, 29, 30, 31] (by decide +kernel) (by decide +kernel)
set_option maxRecDepth 20000 in
theorem gX7_laysRows_X7_mod : GoodIn wsX7_laysRows (wsV RX7 88 RX7 yX7_mod wsX7_mod) := goodIn_app (goodIn_of _ (by decide +kernel)) ggX7_laysRows_X7_mod
theorem dX7_laysRows_0 : decode cX7_laysRows 0 = .ok (.iconst 0, 1) := by decide +kernel
theorem dX7_laysRows_1 : decode cX7_laysRows 1 = .ok (.istore_n 2, 1) := by decide +kernel
theorem dX7_laysRows_2 : decode cX7_laysRows 2 = .ok (.iload_n 2, 1) := by decide +kernel
theorem dX7_laysRows_3 : decode cX7_laysRows 3 = .ok (.iload_n 1, 1) := by decide +kernel
theorem dX7_laysRows_4 : decode cX7_laysRows 4 = .ok (.if_icmp .gt 70, 3) := by decide +kernel
theorem dX7_laysRows_7 : decode cX7_laysRows 7 = .ok (.iconst 0, 1) := by decide +kernel
theorem dX7_laysRows_8 : decode cX7_laysRows 8 = .ok (.istore_n 3, 1) := by decide +kernel
theorem dX7_laysRows_9 : decode cX7_laysRows 9 = .ok (.iload_n 3, 1) := by decide +kernel
theorem dX7_laysRows_10 : decode cX7_laysRows 10 = .ok (.iload_n 1, 1) := by decide +kernel
theorem dX7_laysRows_11 : decode cX7_laysRows 11 = .ok (.if_icmp .gt 47, 3) := by decide +kernel
theorem dX7_laysRows_14 : decode cX7_laysRows 14 = .ok (.aload_n 0, 1) := by decide +kernel
theorem dX7_laysRows_15 : decode cX7_laysRows 15 = .ok (.getfield 33, 3) := by decide +kernel
theorem dX7_laysRows_18 : decode cX7_laysRows 18 = .ok (.iconst 5, 1) := by decide +kernel
theorem dX7_laysRows_19 : decode cX7_laysRows 19 = .ok (.aload_n 0, 1) := by decide +kernel
theorem dX7_laysRows_20 : decode cX7_laysRows 20 = .ok (.getfield 136, 3) := by decide +kernel
theorem dX7_laysRows_23 : decode cX7_laysRows 23 = .ok (.imul, 1) := by decide +kernel
theorem dX7_laysRows_24 : decode cX7_laysRows 24 = .ok (.iload_n 3, 1) := by decide +kernel
theorem dX7_laysRows_25 : decode cX7_laysRows 25 = .ok (.iadd, 1) := by decide +kernel
theorem dX7_laysRows_26 : decode cX7_laysRows 26 = .ok (.aload_n 0, 1) := by decide +kernel
theorem dX7_laysRows_27 : decode cX7_laysRows 27 = .ok (.aload_n 0, 1) := by decide +kernel
theorem dX7_laysRows_28 : decode cX7_laysRows 28 = .ok (.getfield 30, 3) := by decide +kernel
theorem dX7_laysRows_31 : decode cX7_laysRows 31 = .ok (.iconst 5, 1) := by decide +kernel
theorem dX7_laysRows_32 : decode cX7_laysRows 32 = .ok (.iload_n 2, 1) := by decide +kernel
theorem dX7_laysRows_33 : decode cX7_laysRows 33 = .ok (.imul, 1) := by decide +kernel
theorem dX7_laysRows_34 : decode cX7_laysRows 34 = .ok (.iload_n 3, 1) := by decide +kernel
theorem dX7_laysRows_35 : decode cX7_laysRows 35 = .ok (.iadd, 1) := by decide +kernel
theorem dX7_laysRows_36 : decode cX7_laysRows 36 = .ok (.iaload, 1) := by decide +kernel
theorem dX7_laysRows_37 : decode cX7_laysRows 37 = .ok (.iload_n 2, 1) := by decide +kernel
theorem dX7_laysRows_38 : decode cX7_laysRows 38 = .ok (.iload_n 3, 1) := by decide +kernel
theorem dX7_laysRows_39 : decode cX7_laysRows 39 = .ok (.if_icmp .ne 7, 3) := by decide +kernel
theorem dX7_laysRows_42 : decode cX7_laysRows 42 = .ok (.iconst 1, 1) := by decide +kernel
theorem dX7_laysRows_43 : decode cX7_laysRows 43 = .ok (.goto 4, 3) := by decide +kernel
theorem dX7_laysRows_46 : decode cX7_laysRows 46 = .ok (.iconst 0, 1) := by decide +kernel
theorem dX7_laysRows_47 : decode cX7_laysRows 47 = .ok (.isub, 1) := by decide +kernel
theorem dX7_laysRows_48 : decode cX7_laysRows 48 = .ok (.invokevirtual 88, 3) := by decide +kernel
theorem dX7_laysRows_51 : decode cX7_laysRows 51 = .ok (.iastore, 1) := by decide +kernel
theorem dX7_laysRows_52 : decode cX7_laysRows 52 = .ok (.iinc 3 1, 3) := by decide +kernel
theorem dX7_laysRows_55 : decode cX7_laysRows 55 = .ok (.goto (-46), 3) := by decide +kernel
theorem dX7_laysRows_58 : decode cX7_laysRows 58 = .ok (.aload_n 0, 1) := by decide +kernel
theorem dX7_laysRows_59 : decode cX7_laysRows 59 = .ok (.dup, 1) := by decide +kernel
theorem dX7_laysRows_60 : decode cX7_laysRows 60 = .ok (.getfield 136, 3) := by decide +kernel
theorem dX7_laysRows_63 : decode cX7_laysRows 63 = .ok (.iconst 1, 1) := by decide +kernel
theorem dX7_laysRows_64 : decode cX7_laysRows 64 = .ok (.iadd, 1) := by decide +kernel
theorem dX7_laysRows_65 : decode cX7_laysRows 65 = .ok (.putfield 136, 3) := by decide +kernel
theorem dX7_laysRows_68 : decode cX7_laysRows 68 = .ok (.iinc 2 1, 3) := by decide +kernel
theorem dX7_laysRows_71 : decode cX7_laysRows 71 = .ok (.goto (-69), 3) := by decide +kernel
theorem dX7_laysRows_74 : decode cX7_laysRows 74 = .ok (.return_, 1) := by decide +kernel
set_option maxRecDepth 20000 in
theorem ggX7_free_X7_inverse : GoodIn wsX7_free wsX7_inverse := goodIn_r _ [7, 8, 9, 10, 11, 6, 12, 13, 14, 15, 16, 17, 18, 19, 20, 21, 22, 23, 24, 25, 26, 27, 28, 29, 30, 31, 32, 33, 34] (by decide +kernel) (by decide +kernel)
set_option maxRecDepth 20000 in
theorem gX7_free_X7_inverse : GoodIn wsX7_free (wsV RX7 130 RX7 yX7_inverse wsX7_inverse) := goodIn_app (goodIn_of _ (by decide +kernel)) ggX7_free_X7_inverse
set_option maxRecDepth 20000 in
theorem ggX7_free_X7_mod : GoodIn wsX7_free wsX7_mod := goodIn_r _ [12, 8, 13, 14, 15, 16, 17, 18, 19, 20, 21, 22, 23, 24, 25, 26, 27, 28, 29, 30, 31, 32, 33, 34] (by decide +kernel) (by decide +kernel)
set_option maxRecDepth 20000 in
theorem gX7_free_X7_mod : GoodIn wsX7_free (wsV RX7 88 RX7 yX7_mod wsX7_mod) := goodIn_app (goodIn_of _ (by decide +kernel)) ggX7_free_X7_mod
theorem dX7_free_0 : decode cX7_free 0 = .ok (.iconst 0, 1) := by decide +kernel
theorem dX7_free_1 : decode cX7_free 1 = .ok (.istore_n 2, 1) := by decide +kernel
theorem dX7_free_2 : decode cX7_free 2 = .ok (.iconst 0, 1) := by decide +kernel
theorem dX7_free_3 : decode cX7_free 3 = .ok (.istore_n 3, 1) := by decide +kernel
theorem dX7_free_4 : decode cX7_free 4 = .ok (.iload_n 3, 1) := by decide +kernel
theorem dX7_free_5 : decode cX7_free 5 = .ok (.iload_n 1, 1) := by decide +kernel
theorem dX7_free_6 : decode cX7_free 6 = .ok (.if_icmp .gt 233, 3) := by decide +kernel
theorem dX7_free_9 : decode cX7_free 9 = .ok (.iload_n 2, 1) := by decide +kernel
theorem dX7_free_10 : decode cX7_free 10 = .ok (.istore 4, 2) := by decide +kernel
theorem dX7_free_12 : decode cX7_free 12 = .ok (.iload 4, 2) := by decide +kernel
theorem dX7_free_14 : decode cX7_free 14 = .ok (.aload_n 0, 1) := by decide +kernel
theorem dX7_free_15 : decode cX7_free 15 = .ok (.getfield 136, 3) := by decide +kernel
theorem dX7_free_18 : decode cX7_free 18 = .ok (.if_icmp .ge 23, 3) := by decide +kernel
theorem dX7_free_21 : decode cX7_free 21 = .ok (.aload_n 0, 1) := by decide +kernel
theorem dX7_free_22 : decode cX7_free 22 = .ok (.getfield 33, 3) := by decide +kernel
theorem dX7_free_25 : decode cX7_free 25 = .ok (.iconst 5, 1) := by decide +kernel
theorem dX7_free_26 : decode cX7_free 26 = .ok (.iload 4, 2) := by decide +kernel
theorem dX7_free_28 : decode cX7_free 28 = .ok (.imul, 1) := by decide +kernel
theorem dX7_free_29 : decode cX7_free 29 = .ok (.iload_n 3, 1) := by decide +kernel
theorem dX7_free_30 : decode cX7_free 30 = .ok (.iadd, 1) := by decide +kernel
theorem dX7_free_31 : decode cX7_free 31 = .ok (.iaload, 1) := by decide +kernel
theorem dX7_free_32 : decode cX7_free 32 = .ok (.ifCond .ne 9, 3) := by decide +kernel
theorem dX7_free_35 : decode cX7_free 35 = .ok (.iinc 4 1, 3) := by decide +kernel
theorem dX7_free_38 : decode cX7_free 38 = .ok (.goto (-26), 3) := by decide +kernel
theorem dX7_free_41 : decode cX7_free 41 = .ok (.iload 4, 2) := by decide +kernel
theorem dX7_free_43 : decode cX7_free 43 = .ok (.aload_n 0, 1) := by decide +kernel
theorem dX7_free_44 : decode cX7_free 44 = .ok (.getfield 136, 3) := by decide +kernel
theorem dX7_free_47 : decode cX7_free 47 = .ok (.if_icmp .ge 186, 3) := by decide +kernel
theorem dX7_free_50 : decode cX7_free 50 = .ok (.aload_n 0, 1) := by decide +kernel
theorem dX7_free_51 : decode cX7_free 51 = .ok (.aload_n 0, 1) := by decide +kernel
theorem dX7_free_52 : decode cX7_free 52 = .ok (.getfield 33, 3) := by decide +kernel
theorem dX7_free_55 : decode cX7_free 55 = .ok (.iconst 5, 1) := by decide +kernel
theorem dX7_free_56 : decode cX7_free 56 = .ok (.iload 4, 2) := by decide +kernel
theorem dX7_free_58 : decode cX7_free 58 = .ok (.imul, 1) := by decide +kernel
theorem dX7_free_59 : decode cX7_free 59 = .ok (.iload_n 3, 1) := by decide +kernel
theorem dX7_free_60 : decode cX7_free 60 = .ok (.iadd, 1) := by decide +kernel
theorem dX7_free_61 : decode cX7_free 61 = .ok (.iaload, 1) := by decide +kernel
theorem dX7_free_62 : decode cX7_free 62 = .ok (.invokevirtual 130, 3) := by decide +kernel
theorem dX7_free_65 : decode cX7_free 65 = .ok (.istore 5, 2) := by decide +kernel
theorem dX7_free_67 : decode cX7_free 67 = .ok (.iconst 0, 1) := by decide +kernel
theorem dX7_free_68 : decode cX7_free 68 = .ok (.istore 6, 2) := by decide +kernel
theorem dX7_free_70 : decode cX7_free 70 = .ok (.iload 6, 2) := by decide +kernel
theorem dX7_free_72 : decode cX7_free 72 = .ok (.iload_n 1, 1) := by decide +kernel
theorem dX7_free_73 : decode cX7_free 73 = .ok (.if_icmp .gt 66, 3) := by decide +kernel
theorem dX7_free_76 : decode cX7_free 76 = .ok (.aload_n 0, 1) := by decide +kernel
theorem dX7_free_77 : decode cX7_free 77 = .ok (.aload_n 0, 1) := by decide +kernel
theorem dX7_free_78 : decode cX7_free 78 = .ok (.getfield 33, 3) := by decide +kernel
theorem dX7_free_81 : decode cX7_free 81 = .ok (.iconst 5, 1) := by decide +kernel
theorem dX7_free_82 : decode cX7_free 82 = .ok (.iload 4, 2) := by decide +kernel
theorem dX7_free_84 : decode cX7_free 84 = .ok (.imul, 1) := by decide +kernel
theorem dX7_free_85 : decode cX7_free 85 = .ok (.iload 6, 2) := by decide +kernel
theorem dX7_free_87 : decode cX7_free 87 = .ok (.iadd, 1) := by decide +kernel
theorem dX7_free_88 : decode cX7_free 88 = .ok (.iaload, 1) := by decide +kernel
theorem dX7_free_89 : decode cX7_free 89 = .ok (.iload 5, 2) := by decide +kernel
theorem dX7_free_91 : decode cX7_free 91 = .ok (.imul, 1) := by decide +kernel
theorem dX7_free_92 : decode cX7_free 92 = .ok (.invokevirtual 88, 3) := by decide +kernel
theorem dX7_free_95 : decode cX7_free 95 = .ok (.istore 7, 2) := by decide +kernel
theorem dX7_free_97 : decode cX7_free 97 = .ok (.aload_n 0, 1) := by decide +kernel
theorem dX7_free_98 : decode cX7_free 98 = .ok (.getfield 33, 3) := by decide +kernel
theorem dX7_free_101 : decode cX7_free 101 = .ok (.iconst 5, 1) := by decide +kernel
theorem dX7_free_102 : decode cX7_free 102 = .ok (.iload 4, 2) := by decide +kernel
theorem dX7_free_104 : decode cX7_free 104 = .ok (.imul, 1) := by decide +kernel
theorem dX7_free_105 : decode cX7_free 105 = .ok (.iload 6, 2) := by decide +kernel
theorem dX7_free_107 : decode cX7_free 107 = .ok (.iadd, 1) := by decide +kernel
theorem dX7_free_108 : decode cX7_free 108 = .ok (.aload_n 0, 1) := by decide +kernel
theorem dX7_free_109 : decode cX7_free 109 = .ok (.getfield 33, 3) := by decide +kernel
theorem dX7_free_112 : decode cX7_free 112 = .ok (.iconst 5, 1) := by decide +kernel
theorem dX7_free_113 : decode cX7_free 113 = .ok (.iload_n 2, 1) := by decide +kernel
theorem dX7_free_114 : decode cX7_free 114 = .ok (.imul, 1) := by decide +kernel
theorem dX7_free_115 : decode cX7_free 115 = .ok (.iload 6, 2) := by decide +kernel
theorem dX7_free_117 : decode cX7_free 117 = .ok (.iadd, 1) := by decide +kernel
theorem dX7_free_118 : decode cX7_free 118 = .ok (.iaload, 1) := by decide +kernel
theorem dX7_free_119 : decode cX7_free 119 = .ok (.iastore, 1) := by decide +kernel
theorem dX7_free_120 : decode cX7_free 120 = .ok (.aload_n 0, 1) := by decide +kernel
theorem dX7_free_121 : decode cX7_free 121 = .ok (.getfield 33, 3) := by decide +kernel
theorem dX7_free_124 : decode cX7_free 124 = .ok (.iconst 5, 1) := by decide +kernel
theorem dX7_free_125 : decode cX7_free 125 = .ok (.iload_n 2, 1) := by decide +kernel
theorem dX7_free_126 : decode cX7_free 126 = .ok (.imul, 1) := by decide +kernel
theorem dX7_free_127 : decode cX7_free 127 = .ok (.iload 6, 2) := by decide +kernel
theorem dX7_free_129 : decode cX7_free 129 = .ok (.iadd, 1) := by decide +kernel
theorem dX7_free_130 : decode cX7_free 130 = .ok (.iload 7, 2) := by decide +kernel
theorem dX7_free_132 : decode cX7_free 132 = .ok (.iastore, 1) := by decide +kernel
theorem dX7_free_133 : decode cX7_free 133 = .ok (.iinc 6 1, 3) := by decide +kernel
theorem dX7_free_136 : decode cX7_free 136 = .ok (.goto (-66), 3) := by decide +kernel
theorem dX7_free_139 : decode cX7_free 139 = .ok (.iload_n 2, 1) := by decide +kernel
theorem dX7_free_140 : decode cX7_free 140 = .ok (.iconst 1, 1) := by decide +kernel
theorem dX7_free_141 : decode cX7_free 141 = .ok (.iadd, 1) := by decide +kernel
theorem dX7_free_142 : decode cX7_free 142 = .ok (.istore 6, 2) := by decide +kernel
theorem dX7_free_144 : decode cX7_free 144 = .ok (.iload 6, 2) := by decide +kernel
theorem dX7_free_146 : decode cX7_free 146 = .ok (.aload_n 0, 1) := by decide +kernel
theorem dX7_free_147 : decode cX7_free 147 = .ok (.getfield 136, 3) := by decide +kernel
theorem dX7_free_150 : decode cX7_free 150 = .ok (.if_icmp .ge 80, 3) := by decide +kernel
theorem dX7_free_153 : decode cX7_free 153 = .ok (.aload_n 0, 1) := by decide +kernel
theorem dX7_free_154 : decode cX7_free 154 = .ok (.getfield 33, 3) := by decide +kernel
theorem dX7_free_157 : decode cX7_free 157 = .ok (.iconst 5, 1) := by decide +kernel
theorem dX7_free_158 : decode cX7_free 158 = .ok (.iload 6, 2) := by decide +kernel
theorem dX7_free_160 : decode cX7_free 160 = .ok (.imul, 1) := by decide +kernel
theorem dX7_free_161 : decode cX7_free 161 = .ok (.iload_n 3, 1) := by decide +kernel
theorem dX7_free_162 : decode cX7_free 162 = .ok (.iadd, 1) := by decide +kernel
theorem dX7_free_163 : decode cX7_free 163 = .ok (.iaload, 1) := by decide +kernel
theorem dX7_free_164 : decode cX7_free 164 = .ok (.istore 7, 2) := by decide +kernel
theorem dX7_free_166 : decode cX7_free 166 = .ok (.iconst 0, 1) := by decide +kernel
theorem dX7_free_167 : decode cX7_free 167 = .ok (.istore 8, 2) := by decide +kernel
theorem dX7_free_169 : decode cX7_free 169 = .ok (.iload 8, 2) := by decide +kernel
theorem dX7_free_171 : decode cX7_free 171 = .ok (.iload_n 1, 1) := by decide +kernel
theorem dX7_free_172 : decode cX7_free 172 = .ok (.if_icmp .gt 52, 3) := by decide +kernel
theorem dX7_free_175 : decode cX7_free 175 = .ok (.aload_n 0, 1) := by decide +kernel
theorem dX7_free_176 : decode cX7_free 176 = .ok (.getfield 33, 3) := by decide +kernel
theorem dX7_free_179 : decode cX7_free 179 = .ok (.iconst 5, 1) := by decide +kernel
theorem dX7_free_180 : decode cX7_free 180 = .ok (.iload 6, 2) := by decide +kernel
theorem dX7_free_182 : decode cX7_free 182 = .ok (.imul, 1) := by decide +kernel
theorem dX7_free_183 : decode cX7_free 183 = .ok (.iload 8, 2) := by decide +kernel
theorem dX7_free_185 : decode cX7_free 185 = .ok (.iadd, 1) := by decide +kernel
theorem dX7_free_186 : decode cX7_free 186 = .ok (.aload_n 0, 1) := by decide +kernel
theorem dX7_free_187 : decode cX7_free 187 = .ok (.aload_n 0, 1) := by decide +kernel
theorem dX7_free_188 : decode cX7_free 188 = .ok (.getfield 33, 3) := by decide +kernel
theorem dX7_free_191 : decode cX7_free 191 = .ok (.iconst 5, 1) := by decide +kernel
theorem dX7_free_192 : decode cX7_free 192 = .ok (.iload 6, 2) := by decide +kernel
theorem dX7_free_194 : decode cX7_free 194 = .ok (.imul, 1) := by decide +kernel
theorem dX7_free_195 : decode cX7_free 195 = .ok (.iload 8, 2) := by decide +kernel
theorem dX7_free_197 : decode cX7_free 197 = .ok (.iadd, 1) := by decide +kernel
theorem dX7_free_198 : decode cX7_free 198 = .ok (.iaload, 1) := by decide +kernel
theorem dX7_free_199 : decode cX7_free 199 = .ok (.iload 7, 2) := by decide +kernel
theorem dX7_free_201 : decode cX7_free 201 = .ok (.aload_n 0, 1) := by decide +kernel
theorem dX7_free_202 : decode cX7_free 202 = .ok (.getfield 33, 3) := by decide +kernel
theorem dX7_free_205 : decode cX7_free 205 = .ok (.iconst 5, 1) := by decide +kernel
theorem dX7_free_206 : decode cX7_free 206 = .ok (.iload_n 2, 1) := by decide +kernel
theorem dX7_free_207 : decode cX7_free 207 = .ok (.imul, 1) := by decide +kernel
theorem dX7_free_208 : decode cX7_free 208 = .ok (.iload 8, 2) := by decide +kernel
theorem dX7_free_210 : decode cX7_free 210 = .ok (.iadd, 1) := by decide +kernel
theorem dX7_free_211 : decode cX7_free 211 = .ok (.iaload, 1) := by decide +kernel
theorem dX7_free_212 : decode cX7_free 212 = .ok (.imul, 1) := by decide +kernel
theorem dX7_free_213 : decode cX7_free 213 = .ok (.isub, 1) := by decide +kernel
theorem dX7_free_214 : decode cX7_free 214 = .ok (.invokevirtual 88, 3) := by decide +kernel
theorem dX7_free_217 : decode cX7_free 217 = .ok (.iastore, 1) := by decide +kernel
theorem dX7_free_218 : decode cX7_free 218 = .ok (.iinc 8 1, 3) := by decide +kernel
theorem dX7_free_221 : decode cX7_free 221 = .ok (.goto (-52), 3) := by decide +kernel
theorem dX7_free_224 : decode cX7_free 224 = .ok (.iinc 6 1, 3) := by decide +kernel
theorem dX7_free_227 : decode cX7_free 227 = .ok (.goto (-83), 3) := by decide +kernel
theorem dX7_free_230 : decode cX7_free 230 = .ok (.iinc 2 1, 3) := by decide +kernel
theorem dX7_free_233 : decode cX7_free 233 = .ok (.iinc 3 1, 3) := by decide +kernel
theorem dX7_free_236 : decode cX7_free 236 = .ok (.goto (-232), 3) := by decide +kernel
theorem dX7_free_239 : decode cX7_free 239 = .ok (.iload_n 1, 1) := by decide +kernel
theorem dX7_free_240 : decode cX7_free 240 = .ok (.iconst 1, 1) := by decide +kernel
theorem dX7_free_241 : decode cX7_free 241 = .ok (.iadd, 1) := by decide +kernel
theorem dX7_free_242 : decode cX7_free 242 = .ok (.iload_n 2, 1) := by decide +kernel
theorem dX7_free_243 : decode cX7_free 243 = .ok (.isub, 1) := by decide +kernel
theorem dX7_free_244 : decode cX7_free 244 = .ok (.ireturn, 1) := by decide +kernel
set_option maxRecDepth 20000 in
theorem ggX7_dimensionOf_X7_generatorCode : GoodIn wsX7_dimensionOf wsX7_generatorCode := goodIn_r _ [7, 8, 9, 41, 42, 43, 44, 45, 46, 47, 48, 49, 50, 51, 52, 53, 54, 55, 56, 57, 58, 59, 60, 61, 62] (by decide +kernel) (by decide +kernel)
set_option maxRecDepth 20000 in
theorem gX7_dimensionOf_X7_generatorCode : GoodIn wsX7_dimensionOf (wsV RX7 117 RX7 yX7_generatorCode wsX7_generatorCode) := goodIn_app (goodIn_of _ (by decide +kernel)) ggX7_dimensionOf_X7_generatorCode
set_option maxRecDepth 20000 in
theorem ggX7_dimensionOf_X7_learns : GoodIn wsX7_dimensionOf wsX7_learns := goodIn_r _ [13, 14, 15, 16, 17, 18, 6, 19, 9, 20, 21, 22, 23, 24, 25, 26, 27, 41, 42, 43, 44, 45, 46, 47, 48, 49, 50, 51, 52, 53, 54, 55, 56, 57, 58, 59, 60, 61, 62] (by decide +kernel) (by decide +kernel)
set_option maxRecDepth 20000 in
theorem gX7_dimensionOf_X7_learns : GoodIn wsX7_dimensionOf (wsV RX7 120 RX7 yX7_learns wsX7_learns) := goodIn_app (goodIn_of _ (by decide +kernel)) ggX7_dimensionOf_X7_learns
set_option maxRecDepth 20000 in
theorem ggX7_dimensionOf_X7_laysRows : GoodIn wsX7_dimensionOf wsX7_laysRows := goodIn_r _ [31, 32, 1, 15, 24, 25, 26, 6, 27, 9, 41, 42, 43, 44, 45, 46, 47, 48, 49, 50, 51, 52, 53, 54, 55, 56, 57, 58, 59, 60, 61, 62] (by decide +kernel) (by decide +kernel)
set_option maxRecDepth 20000 in
theorem gX7_dimensionOf_X7_laysRows : GoodIn wsX7_dimensionOf (wsV RX7 139 RX7 yX7_laysRows wsX7_laysRows) := goodIn_app (goodIn_of _ (by decide +kernel)) ggX7_dimensionOf_X7_laysRows
set_option maxRecDepth 20000 in
theorem ggX7_dimensionOf_X7_free : GoodIn wsX7_dimensionOf wsX7_free := goodIn_r _ [36, 1, 32, 37, 38, 39, 6, 40, 9, 24, 25, 26, 27, 41, 42, 43, 44, 45, 46, 47, 48, 49, 50, 51, 52, 53, 54, 55, 56, 57, 58, 59, 60, 61, 62] (by decide +kernel) (by decide +kernel)
set_option maxRecDepth 20000 in
theorem gX7_dimensionOf_X7_free : GoodIn wsX7_dimensionOf (wsV RX7 142 RX7 yX7_free wsX7_free) := goodIn_app (goodIn_of _ (by decide +kernel)) ggX7_dimensionOf_X7_free
theorem dX7_dimensionOf_0 : decode cX7_dimensionOf 0 = .ok (.aload_n 0, 1) := by decide +kernel
theorem dX7_dimensionOf_1 : decode cX7_dimensionOf 1 = .ok (.iconst 0, 1) := by decide +kernel
theorem dX7_dimensionOf_2 : decode cX7_dimensionOf 2 = .ok (.putfield 136, 3) := by decide +kernel
theorem dX7_dimensionOf_5 : decode cX7_dimensionOf 5 = .ok (.iconst 0, 1) := by decide +kernel
theorem dX7_dimensionOf_6 : decode cX7_dimensionOf 6 = .ok (.istore_n 2, 1) := by decide +kernel
theorem dX7_dimensionOf_7 : decode cX7_dimensionOf 7 = .ok (.iload_n 2, 1) := by decide +kernel
theorem dX7_dimensionOf_8 : decode cX7_dimensionOf 8 = .ok (.aload_n 0, 1) := by decide +kernel
theorem dX7_dimensionOf_9 : decode cX7_dimensionOf 9 = .ok (.getfield 78, 3) := by decide +kernel
theorem dX7_dimensionOf_12 : decode cX7_dimensionOf 12 = .ok (.if_icmp .ge 24, 3) := by decide +kernel
theorem dX7_dimensionOf_15 : decode cX7_dimensionOf 15 = .ok (.aload_n 0, 1) := by decide +kernel
theorem dX7_dimensionOf_16 : decode cX7_dimensionOf 16 = .ok (.aload_n 0, 1) := by decide +kernel
theorem dX7_dimensionOf_17 : decode cX7_dimensionOf 17 = .ok (.iload_n 2, 1) := by decide +kernel
theorem dX7_dimensionOf_18 : decode cX7_dimensionOf 18 = .ok (.invokevirtual 117, 3) := by decide +kernel
theorem dX7_dimensionOf_21 : decode cX7_dimensionOf 21 = .ok (.iload_n 1, 1) := by decide +kernel
theorem dX7_dimensionOf_22 : decode cX7_dimensionOf 22 = .ok (.invokevirtual 120, 3) := by decide +kernel
theorem dX7_dimensionOf_25 : decode cX7_dimensionOf 25 = .ok (.aload_n 0, 1) := by decide +kernel
theorem dX7_dimensionOf_26 : decode cX7_dimensionOf 26 = .ok (.iload_n 1, 1) := by decide +kernel
theorem dX7_dimensionOf_27 : decode cX7_dimensionOf 27 = .ok (.invokevirtual 139, 3) := by decide +kernel
theorem dX7_dimensionOf_30 : decode cX7_dimensionOf 30 = .ok (.iinc 2 1, 3) := by decide +kernel
theorem dX7_dimensionOf_33 : decode cX7_dimensionOf 33 = .ok (.goto (-26), 3) := by decide +kernel
theorem dX7_dimensionOf_36 : decode cX7_dimensionOf 36 = .ok (.aload_n 0, 1) := by decide +kernel
theorem dX7_dimensionOf_37 : decode cX7_dimensionOf 37 = .ok (.iload_n 1, 1) := by decide +kernel
theorem dX7_dimensionOf_38 : decode cX7_dimensionOf 38 = .ok (.invokevirtual 142, 3) := by decide +kernel
theorem dX7_dimensionOf_41 : decode cX7_dimensionOf 41 = .ok (.ireturn, 1) := by decide +kernel
set_option maxRecDepth 20000 in
theorem ggX7_dimension_X7_isDegree : GoodIn wsX7_dimension wsX7_isDegree := goodIn_r _ [5, 6, 7, 4, 8] (by decide +kernel) (by decide +kernel)
set_option maxRecDepth 20000 in
theorem gX7_dimension_X7_isDegree : GoodIn wsX7_dimension (wsV RX7 81 RX7 yX7_isDegree wsX7_isDegree) := goodIn_app (goodIn_of _ (by decide +kernel)) ggX7_dimension_X7_isDegree
set_option maxRecDepth 20000 in
theorem ggX7_dimension_X7_holds : GoodIn wsX7_dimension wsX7_holds := goodIn_r _ [12, 13, 57, 58, 59, 60, 61, 62, 63, 64, 65, 66, 67, 68, 69, 70, 71, 72, 73, 74, 75, 76, 77, 78] (by decide +kernel) (by decide +kernel)
set_option maxRecDepth 20000 in
theorem gX7_dimension_X7_holds : GoodIn wsX7_dimension (wsV RX7 74 RX7 yX7_holds wsX7_holds) := goodIn_app (goodIn_of _ (by decide +kernel)) ggX7_dimension_X7_holds
set_option maxRecDepth 20000 in
theorem ggX7_dimension_X7_dimensionOf : GoodIn wsX7_dimension wsX7_dimensionOf := goodIn_r _ [17, 18, 19, 20, 21, 22, 4, 23, 24, 25, 26, 27, 28, 29, 30, 31, 32, 33, 34, 35, 36, 37, 38, 39, 40, 41, 42, 43, 44, 45, 46, 47, 48, 49, 50, 51, 52, 53, 54, 55, 56, 57, 58, 59, 60, 61, 62, 63, 64, 65, 66, 67, 68, 69, 70, 71, 72, 73, 74, 75, 76, 77, 78] (by decide +kernel) (by decide +kernel)
set_option maxRecDepth 20000 in
theorem gX7_dimension_X7_dimensionOf : GoodIn wsX7_dimension (wsV RX7 145 RX7 yX7_dimensionOf wsX7_dimensionOf) := goodIn_app (goodIn_of _ (by decide +kernel)) ggX7_dimension_X7_dimensionOf
theorem dX7_dimension_0 : decode cX7_dimension 0 = .ok (.aload_n 0, 1) := by decide +kernel
theorem dX7_dimension_1 : decode cX7_dimension 1 = .ok (.aload_n 0, 1) := by decide +kernel
theorem dX7_dimension_2 : decode cX7_dimension 2 = .ok (.iload_n 1, 1) := by decide +kernel
theorem dX7_dimension_3 : decode cX7_dimension 3 = .ok (.invokevirtual 81, 3) := by decide +kernel
theorem dX7_dimension_6 : decode cX7_dimension 6 = .ok (.ifCond .eq 7, 3) := by decide +kernel
theorem dX7_dimension_9 : decode cX7_dimension 9 = .ok (.iconst 0, 1) := by decide +kernel
theorem dX7_dimension_10 : decode cX7_dimension 10 = .ok (.goto 4, 3) := by decide +kernel
theorem dX7_dimension_13 : decode cX7_dimension 13 = .ok (.iconst 1, 1) := by decide +kernel
theorem dX7_dimension_14 : decode cX7_dimension 14 = .ok (.invokevirtual 74, 3) := by decide +kernel
theorem dX7_dimension_17 : decode cX7_dimension 17 = .ok (.ifCond .eq 11, 3) := by decide +kernel
theorem dX7_dimension_20 : decode cX7_dimension 20 = .ok (.aload_n 0, 1) := by decide +kernel
theorem dX7_dimension_21 : decode cX7_dimension 21 = .ok (.iload_n 1, 1) := by decide +kernel
theorem dX7_dimension_22 : decode cX7_dimension 22 = .ok (.invokevirtual 145, 3) := by decide +kernel
theorem dX7_dimension_25 : decode cX7_dimension 25 = .ok (.goto 4, 3) := by decide +kernel
theorem dX7_dimension_28 : decode cX7_dimension 28 = .ok (.iconst 0, 1) := by decide +kernel
theorem dX7_dimension_29 : decode cX7_dimension 29 = .ok (.ireturn, 1) := by decide +kernel
set_option maxRecDepth 20000 in
theorem ggX7_dimensionAnew_X7_isDegree : GoodIn wsX7_dimensionAnew wsX7_isDegree := goodIn_r _ [5, 6, 7, 4, 8] (by decide +kernel) (by decide +kernel)
set_option maxRecDepth 20000 in
theorem gX7_dimensionAnew_X7_isDegree : GoodIn wsX7_dimensionAnew (wsV RX7 81 RX7 yX7_isDegree wsX7_isDegree) := goodIn_app (goodIn_of _ (by decide +kernel)) ggX7_dimensionAnew_X7_isDegree
set_option maxRecDepth 20000 in
theorem ggX7_dimensionAnew_X7_holds : GoodIn wsX7_dimensionAnew wsX7_holds := goodIn_r _ [12, 13, 57, 58, 59, 60, 61, 62, 63, 64, 65, 66, 67, 68, 69, 70, 71, 72, 73, 74, 75, 76, 77, 78] (by decide +kernel) (by decide +kernel)
set_option maxRecDepth 20000 in
theorem gX7_dimensionAnew_X7_holds : GoodIn wsX7_dimensionAnew (wsV RX7 74 RX7 yX7_holds wsX7_holds) := goodIn_app (goodIn_of _ (by decide +kernel)) ggX7_dimensionAnew_X7_holds
set_option maxRecDepth 20000 in
theorem ggX7_dimensionAnew_X7_dimensionOf : GoodIn wsX7_dimensionAnew wsX7_dimensionOf := goodIn_r _ [17, 18, 19, 20, 21, 22, 4, 23, 24, 25, 26, 27, 28, 29, 30, 31, 32, 33, 34, 35, 36, 37, 38, 39, 40, 41, 42, 43, 44, 45, 46, 47, 48, 49, 50, 51, 52, 53, 54, 55, 56, 57, 58, 59, 60, 61, 62, 63, 64, 65, 66, 67, 68, 69, 70, 71, 72, 73, 74, 75, 76, 77, 78] (by decide +kernel) (by decide +kernel)
set_option maxRecDepth 20000 in
theorem gX7_dimensionAnew_X7_dimensionOf : GoodIn wsX7_dimensionAnew (wsV RX7 145 RX7 yX7_dimensionOf wsX7_dimensionOf) := goodIn_app (goodIn_of _ (by decide +kernel)) ggX7_dimensionAnew_X7_dimensionOf
theorem dX7_dimensionAnew_0 : decode cX7_dimensionAnew 0 = .ok (.aload_n 0, 1) := by decide +kernel
theorem dX7_dimensionAnew_1 : decode cX7_dimensionAnew 1 = .ok (.aload_n 0, 1) := by decide +kernel
theorem dX7_dimensionAnew_2 : decode cX7_dimensionAnew 2 = .ok (.iload_n 1, 1) := by decide +kernel
theorem dX7_dimensionAnew_3 : decode cX7_dimensionAnew 3 = .ok (.invokevirtual 81, 3) := by decide +kernel
theorem dX7_dimensionAnew_6 : decode cX7_dimensionAnew 6 = .ok (.ifCond .eq 7, 3) := by decide +kernel
theorem dX7_dimensionAnew_9 : decode cX7_dimensionAnew 9 = .ok (.iconst 0, 1) := by decide +kernel
theorem dX7_dimensionAnew_10 : decode cX7_dimensionAnew 10 = .ok (.goto 4, 3) := by decide +kernel
theorem dX7_dimensionAnew_13 : decode cX7_dimensionAnew 13 = .ok (.iconst 1, 1) := by decide +kernel
theorem dX7_dimensionAnew_14 : decode cX7_dimensionAnew 14 = .ok (.invokevirtual 74, 3) := by decide +kernel
theorem dX7_dimensionAnew_17 : decode cX7_dimensionAnew 17 = .ok (.ifCond .eq 11, 3) := by decide +kernel
theorem dX7_dimensionAnew_20 : decode cX7_dimensionAnew 20 = .ok (.aload_n 0, 1) := by decide +kernel
theorem dX7_dimensionAnew_21 : decode cX7_dimensionAnew 21 = .ok (.iload_n 1, 1) := by decide +kernel
theorem dX7_dimensionAnew_22 : decode cX7_dimensionAnew 22 = .ok (.invokevirtual 145, 3) := by decide +kernel
theorem dX7_dimensionAnew_25 : decode cX7_dimensionAnew 25 = .ok (.goto 4, 3) := by decide +kernel
theorem dX7_dimensionAnew_28 : decode cX7_dimensionAnew 28 = .ok (.iconst 0, 1) := by decide +kernel
theorem dX7_dimensionAnew_29 : decode cX7_dimensionAnew 29 = .ok (.ireturn, 1) := by decide +kernel
set_option maxRecDepth 20000 in
theorem ggX7_derives_X7_mod : GoodIn wsX7_derives wsX7_mod := goodIn_r _ [5, 6, 7, 8, 9, 10, 11, 12, 13, 14, 15, 16, 17, 18, 19, 20, 21, 22, 23, 24, 25, 26, 27, 28] (by decide +kernel) (by decide +kernel)
set_option maxRecDepth 20000 in
theorem gX7_derives_X7_mod : GoodIn wsX7_derives (wsV RX7 88 RX7 yX7_mod wsX7_mod) := goodIn_app (goodIn_of _ (by decide +kernel)) ggX7_derives_X7_mod
theorem dX7_derives_0 : decode cX7_derives 0 = .ok (.iconst 0, 1) := by decide +kernel
theorem dX7_derives_1 : decode cX7_derives 1 = .ok (.istore 5, 2) := by decide +kernel
theorem dX7_derives_3 : decode cX7_derives 3 = .ok (.iload 5, 2) := by decide +kernel
theorem dX7_derives_5 : decode cX7_derives 5 = .ok (.iload_n 3, 1) := by decide +kernel
theorem dX7_derives_6 : decode cX7_derives 6 = .ok (.if_icmp .ge 47, 3) := by decide +kernel
theorem dX7_derives_9 : decode cX7_derives 9 = .ok (.iconst 0, 1) := by decide +kernel
theorem dX7_derives_10 : decode cX7_derives 10 = .ok (.istore 6, 2) := by decide +kernel
theorem dX7_derives_12 : decode cX7_derives 12 = .ok (.iload 6, 2) := by decide +kernel
theorem dX7_derives_14 : decode cX7_derives 14 = .ok (.iload_n 2, 1) := by decide +kernel
theorem dX7_derives_15 : decode cX7_derives 15 = .ok (.iload 5, 2) := by decide +kernel
theorem dX7_derives_17 : decode cX7_derives 17 = .ok (.isub, 1) := by decide +kernel
theorem dX7_derives_18 : decode cX7_derives 18 = .ok (.if_icmp .gt 29, 3) := by decide +kernel
theorem dX7_derives_21 : decode cX7_derives 21 = .ok (.aload_n 1, 1) := by decide +kernel
theorem dX7_derives_22 : decode cX7_derives 22 = .ok (.iload 6, 2) := by decide +kernel
theorem dX7_derives_24 : decode cX7_derives 24 = .ok (.aload_n 0, 1) := by decide +kernel
theorem dX7_derives_25 : decode cX7_derives 25 = .ok (.aload_n 1, 1) := by decide +kernel
theorem dX7_derives_26 : decode cX7_derives 26 = .ok (.iload 6, 2) := by decide +kernel
theorem dX7_derives_28 : decode cX7_derives 28 = .ok (.iaload, 1) := by decide +kernel
theorem dX7_derives_29 : decode cX7_derives 29 = .ok (.iload_n 2, 1) := by decide +kernel
theorem dX7_derives_30 : decode cX7_derives 30 = .ok (.iload 5, 2) := by decide +kernel
theorem dX7_derives_32 : decode cX7_derives 32 = .ok (.isub, 1) := by decide +kernel
theorem dX7_derives_33 : decode cX7_derives 33 = .ok (.iload 6, 2) := by decide +kernel
theorem dX7_derives_35 : decode cX7_derives 35 = .ok (.isub, 1) := by decide +kernel
theorem dX7_derives_36 : decode cX7_derives 36 = .ok (.imul, 1) := by decide +kernel
theorem dX7_derives_37 : decode cX7_derives 37 = .ok (.invokevirtual 88, 3) := by decide +kernel
theorem dX7_derives_40 : decode cX7_derives 40 = .ok (.iastore, 1) := by decide +kernel
theorem dX7_derives_41 : decode cX7_derives 41 = .ok (.iinc 6 1, 3) := by decide +kernel
theorem dX7_derives_44 : decode cX7_derives 44 = .ok (.goto (-32), 3) := by decide +kernel
theorem dX7_derives_47 : decode cX7_derives 47 = .ok (.iinc 5 1, 3) := by decide +kernel
theorem dX7_derives_50 : decode cX7_derives 50 = .ok (.goto (-47), 3) := by decide +kernel
theorem dX7_derives_53 : decode cX7_derives 53 = .ok (.iconst 0, 1) := by decide +kernel
theorem dX7_derives_54 : decode cX7_derives 54 = .ok (.istore 5, 2) := by decide +kernel
theorem dX7_derives_56 : decode cX7_derives 56 = .ok (.iload 5, 2) := by decide +kernel
theorem dX7_derives_58 : decode cX7_derives 58 = .ok (.iload 4, 2) := by decide +kernel
theorem dX7_derives_60 : decode cX7_derives 60 = .ok (.if_icmp .ge 48, 3) := by decide +kernel
theorem dX7_derives_63 : decode cX7_derives 63 = .ok (.iconst 0, 1) := by decide +kernel
theorem dX7_derives_64 : decode cX7_derives 64 = .ok (.istore 6, 2) := by decide +kernel
theorem dX7_derives_66 : decode cX7_derives 66 = .ok (.iload 6, 2) := by decide +kernel
theorem dX7_derives_68 : decode cX7_derives 68 = .ok (.iload_n 2, 1) := by decide +kernel
theorem dX7_derives_69 : decode cX7_derives 69 = .ok (.iload_n 3, 1) := by decide +kernel
theorem dX7_derives_70 : decode cX7_derives 70 = .ok (.isub, 1) := by decide +kernel
theorem dX7_derives_71 : decode cX7_derives 71 = .ok (.iload 5, 2) := by decide +kernel
theorem dX7_derives_73 : decode cX7_derives 73 = .ok (.isub, 1) := by decide +kernel
theorem dX7_derives_74 : decode cX7_derives 74 = .ok (.if_icmp .ge 28, 3) := by decide +kernel
theorem dX7_derives_77 : decode cX7_derives 77 = .ok (.aload_n 1, 1) := by decide +kernel
theorem dX7_derives_78 : decode cX7_derives 78 = .ok (.iload 6, 2) := by decide +kernel
theorem dX7_derives_80 : decode cX7_derives 80 = .ok (.aload_n 0, 1) := by decide +kernel
theorem dX7_derives_81 : decode cX7_derives 81 = .ok (.aload_n 1, 1) := by decide +kernel
theorem dX7_derives_82 : decode cX7_derives 82 = .ok (.iload 6, 2) := by decide +kernel
theorem dX7_derives_84 : decode cX7_derives 84 = .ok (.iconst 1, 1) := by decide +kernel
theorem dX7_derives_85 : decode cX7_derives 85 = .ok (.iadd, 1) := by decide +kernel
theorem dX7_derives_86 : decode cX7_derives 86 = .ok (.iaload, 1) := by decide +kernel
theorem dX7_derives_87 : decode cX7_derives 87 = .ok (.iload 6, 2) := by decide +kernel
theorem dX7_derives_89 : decode cX7_derives 89 = .ok (.iconst 1, 1) := by decide +kernel
theorem dX7_derives_90 : decode cX7_derives 90 = .ok (.iadd, 1) := by decide +kernel
theorem dX7_derives_91 : decode cX7_derives 91 = .ok (.imul, 1) := by decide +kernel
theorem dX7_derives_92 : decode cX7_derives 92 = .ok (.invokevirtual 88, 3) := by decide +kernel
theorem dX7_derives_95 : decode cX7_derives 95 = .ok (.iastore, 1) := by decide +kernel
theorem dX7_derives_96 : decode cX7_derives 96 = .ok (.iinc 6 1, 3) := by decide +kernel
theorem dX7_derives_99 : decode cX7_derives 99 = .ok (.goto (-33), 3) := by decide +kernel
theorem dX7_derives_102 : decode cX7_derives 102 = .ok (.iinc 5 1, 3) := by decide +kernel
theorem dX7_derives_105 : decode cX7_derives 105 = .ok (.goto (-49), 3) := by decide +kernel
theorem dX7_derives_108 : decode cX7_derives 108 = .ok (.return_, 1) := by decide +kernel
theorem dX7_choose_0 : decode cX7_choose 0 = .ok (.iconst 1, 1) := by decide +kernel
theorem dX7_choose_1 : decode cX7_choose 1 = .ok (.istore_n 2, 1) := by decide +kernel
theorem dX7_choose_2 : decode cX7_choose 2 = .ok (.iconst 0, 1) := by decide +kernel
theorem dX7_choose_3 : decode cX7_choose 3 = .ok (.istore_n 3, 1) := by decide +kernel
theorem dX7_choose_4 : decode cX7_choose 4 = .ok (.iload_n 3, 1) := by decide +kernel
theorem dX7_choose_5 : decode cX7_choose 5 = .ok (.iload_n 1, 1) := by decide +kernel
theorem dX7_choose_6 : decode cX7_choose 6 = .ok (.if_icmp .ge 19, 3) := by decide +kernel
theorem dX7_choose_9 : decode cX7_choose 9 = .ok (.iload_n 2, 1) := by decide +kernel
theorem dX7_choose_10 : decode cX7_choose 10 = .ok (.iload_n 0, 1) := by decide +kernel
theorem dX7_choose_11 : decode cX7_choose 11 = .ok (.iload_n 3, 1) := by decide +kernel
theorem dX7_choose_12 : decode cX7_choose 12 = .ok (.isub, 1) := by decide +kernel
theorem dX7_choose_13 : decode cX7_choose 13 = .ok (.imul, 1) := by decide +kernel
theorem dX7_choose_14 : decode cX7_choose 14 = .ok (.iload_n 3, 1) := by decide +kernel
theorem dX7_choose_15 : decode cX7_choose 15 = .ok (.iconst 1, 1) := by decide +kernel
theorem dX7_choose_16 : decode cX7_choose 16 = .ok (.iadd, 1) := by decide +kernel
theorem dX7_choose_17 : decode cX7_choose 17 = .ok (.idiv, 1) := by decide +kernel
theorem dX7_choose_18 : decode cX7_choose 18 = .ok (.istore_n 2, 1) := by decide +kernel
theorem dX7_choose_19 : decode cX7_choose 19 = .ok (.iinc 3 1, 3) := by decide +kernel
theorem dX7_choose_22 : decode cX7_choose 22 = .ok (.goto (-18), 3) := by decide +kernel
theorem dX7_choose_25 : decode cX7_choose 25 = .ok (.iload_n 2, 1) := by decide +kernel
theorem dX7_choose_26 : decode cX7_choose 26 = .ok (.ireturn, 1) := by decide +kernel
set_option maxRecDepth 20000 in
theorem ggX7_transvected_X7_figure : GoodIn wsX7_transvected wsX7_figure := goodIn_r _ [11, 6, 12, 13, 14, 10, 15, 27, 28, 29, 30, 31, 32, 33, 34, 35, 36, 37, 38, 39, 40, 41, 42, 43, 44, 45, 46, 47, 48] (by decide +kernel) (by decide +kernel)
set_option maxRecDepth 20000 in
theorem gX7_transvected_X7_figure : GoodIn wsX7_transvected (wsV RX7 84 RX7 yX7_figure wsX7_figure) := goodIn_app (goodIn_of _ (by decide +kernel)) ggX7_transvected_X7_figure
set_option maxRecDepth 20000 in
theorem ggX7_transvected_X7_derives : GoodIn wsX7_transvected wsX7_derives := goodIn_r _ [19, 20, 21, 22, 10, 23, 6, 27, 28, 29, 30, 31, 32, 33, 34, 35, 36, 37, 38, 39, 40, 41, 42, 43, 44, 45, 46, 47, 48] (by decide +kernel) (by decide +kernel)
set_option maxRecDepth 20000 in
theorem gX7_transvected_X7_derives : GoodIn wsX7_transvected (wsV RX7 148 RX7 yX7_derives wsX7_derives) := goodIn_app (goodIn_of _ (by decide +kernel)) ggX7_transvected_X7_derives
set_option maxRecDepth 20000 in
theorem ggX7_transvected_X7_choose : GoodIn wsX7_transvected wsX7_choose := goodIn_r _ [26] (by decide +kernel) (by decide +kernel)
set_option maxRecDepth 20000 in
theorem gX7_transvected_X7_choose : GoodIn wsX7_transvected (va_wsS RX7 152 yX7_choose wsX7_choose) := goodIn_app (goodIn_of _ (by decide +kernel)) ggX7_transvected_X7_choose
set_option maxRecDepth 20000 in
theorem ggX7_transvected_X7_mod : GoodIn wsX7_transvected wsX7_mod := goodIn_r _ [23, 6, 27, 28, 29, 30, 31, 32, 33, 34, 35, 36, 37, 38, 39, 40, 41, 42, 43, 44, 45, 46, 47, 48] (by decide +kernel) (by decide +kernel)
set_option maxRecDepth 20000 in
theorem gX7_transvected_X7_mod : GoodIn wsX7_transvected (wsV RX7 88 RX7 yX7_mod wsX7_mod) := goodIn_app (goodIn_of _ (by decide +kernel)) ggX7_transvected_X7_mod
theorem dX7_transvected_0 : decode cX7_transvected 0 = .ok (.aload_n 0, 1) := by decide +kernel
theorem dX7_transvected_1 : decode cX7_transvected 1 = .ok (.getfield 13, 3) := by decide +kernel
theorem dX7_transvected_4 : decode cX7_transvected 4 = .ok (.iload_n 1, 1) := by decide +kernel
theorem dX7_transvected_5 : decode cX7_transvected 5 = .ok (.iaload, 1) := by decide +kernel
theorem dX7_transvected_6 : decode cX7_transvected 6 = .ok (.iload_n 3, 1) := by decide +kernel
theorem dX7_transvected_7 : decode cX7_transvected 7 = .ok (.isub, 1) := by decide +kernel
theorem dX7_transvected_8 : decode cX7_transvected 8 = .ok (.istore 4, 2) := by decide +kernel
theorem dX7_transvected_10 : decode cX7_transvected 10 = .ok (.aload_n 0, 1) := by decide +kernel
theorem dX7_transvected_11 : decode cX7_transvected 11 = .ok (.getfield 13, 3) := by decide +kernel
theorem dX7_transvected_14 : decode cX7_transvected 14 = .ok (.iload_n 2, 1) := by decide +kernel
theorem dX7_transvected_15 : decode cX7_transvected 15 = .ok (.iaload, 1) := by decide +kernel
theorem dX7_transvected_16 : decode cX7_transvected 16 = .ok (.iload_n 3, 1) := by decide +kernel
theorem dX7_transvected_17 : decode cX7_transvected 17 = .ok (.isub, 1) := by decide +kernel
theorem dX7_transvected_18 : decode cX7_transvected 18 = .ok (.istore 5, 2) := by decide +kernel
theorem dX7_transvected_20 : decode cX7_transvected 20 = .ok (.iconst 0, 1) := by decide +kernel
theorem dX7_transvected_21 : decode cX7_transvected 21 = .ok (.istore 6, 2) := by decide +kernel
theorem dX7_transvected_23 : decode cX7_transvected 23 = .ok (.iload 6, 2) := by decide +kernel
theorem dX7_transvected_25 : decode cX7_transvected 25 = .ok (.bipush 9, 2) := by decide +kernel
theorem dX7_transvected_27 : decode cX7_transvected 27 = .ok (.if_icmp .ge 17, 3) := by decide +kernel
theorem dX7_transvected_30 : decode cX7_transvected 30 = .ok (.aload_n 0, 1) := by decide +kernel
theorem dX7_transvected_31 : decode cX7_transvected 31 = .ok (.getfield 42, 3) := by decide +kernel
theorem dX7_transvected_34 : decode cX7_transvected 34 = .ok (.iload 6, 2) := by decide +kernel
theorem dX7_transvected_36 : decode cX7_transvected 36 = .ok (.iconst 0, 1) := by decide +kernel
theorem dX7_transvected_37 : decode cX7_transvected 37 = .ok (.iastore, 1) := by decide +kernel
theorem dX7_transvected_38 : decode cX7_transvected 38 = .ok (.iinc 6 1, 3) := by decide +kernel
theorem dX7_transvected_41 : decode cX7_transvected 41 = .ok (.goto (-18), 3) := by decide +kernel
theorem dX7_transvected_44 : decode cX7_transvected 44 = .ok (.iconst 0, 1) := by decide +kernel
theorem dX7_transvected_45 : decode cX7_transvected 45 = .ok (.istore 6, 2) := by decide +kernel
theorem dX7_transvected_47 : decode cX7_transvected 47 = .ok (.iload 6, 2) := by decide +kernel
theorem dX7_transvected_49 : decode cX7_transvected 49 = .ok (.iload_n 3, 1) := by decide +kernel
theorem dX7_transvected_50 : decode cX7_transvected 50 = .ok (.if_icmp .gt 248, 3) := by decide +kernel
theorem dX7_transvected_53 : decode cX7_transvected 53 = .ok (.iconst 0, 1) := by decide +kernel
theorem dX7_transvected_54 : decode cX7_transvected 54 = .ok (.istore 7, 2) := by decide +kernel
theorem dX7_transvected_56 : decode cX7_transvected 56 = .ok (.iload 7, 2) := by decide +kernel
theorem dX7_transvected_58 : decode cX7_transvected 58 = .ok (.iconst 5, 1) := by decide +kernel
theorem dX7_transvected_59 : decode cX7_transvected 59 = .ok (.if_icmp .ge 77, 3) := by decide +kernel
theorem dX7_transvected_62 : decode cX7_transvected 62 = .ok (.aload_n 0, 1) := by decide +kernel
theorem dX7_transvected_63 : decode cX7_transvected 63 = .ok (.getfield 36, 3) := by decide +kernel
theorem dX7_transvected_66 : decode cX7_transvected 66 = .ok (.iload 7, 2) := by decide +kernel
theorem dX7_transvected_68 : decode cX7_transvected 68 = .ok (.iload 7, 2) := by decide +kernel
theorem dX7_transvected_70 : decode cX7_transvected 70 = .ok (.aload_n 0, 1) := by decide +kernel
theorem dX7_transvected_71 : decode cX7_transvected 71 = .ok (.getfield 13, 3) := by decide +kernel
theorem dX7_transvected_74 : decode cX7_transvected 74 = .ok (.iload_n 1, 1) := by decide +kernel
theorem dX7_transvected_75 : decode cX7_transvected 75 = .ok (.iaload, 1) := by decide +kernel
theorem dX7_transvected_76 : decode cX7_transvected 76 = .ok (.if_icmp .gt 18, 3) := by decide +kernel
theorem dX7_transvected_79 : decode cX7_transvected 79 = .ok (.aload_n 0, 1) := by decide +kernel
theorem dX7_transvected_80 : decode cX7_transvected 80 = .ok (.aload_n 0, 1) := by decide +kernel
theorem dX7_transvected_81 : decode cX7_transvected 81 = .ok (.getfield 17, 3) := by decide +kernel
theorem dX7_transvected_84 : decode cX7_transvected 84 = .ok (.iload_n 1, 1) := by decide +kernel
theorem dX7_transvected_85 : decode cX7_transvected 85 = .ok (.iaload, 1) := by decide +kernel
theorem dX7_transvected_86 : decode cX7_transvected 86 = .ok (.iload 7, 2) := by decide +kernel
theorem dX7_transvected_88 : decode cX7_transvected 88 = .ok (.invokevirtual 84, 3) := by decide +kernel
theorem dX7_transvected_91 : decode cX7_transvected 91 = .ok (.goto 4, 3) := by decide +kernel
theorem dX7_transvected_94 : decode cX7_transvected 94 = .ok (.iconst 0, 1) := by decide +kernel
theorem dX7_transvected_95 : decode cX7_transvected 95 = .ok (.iastore, 1) := by decide +kernel
theorem dX7_transvected_96 : decode cX7_transvected 96 = .ok (.aload_n 0, 1) := by decide +kernel
theorem dX7_transvected_97 : decode cX7_transvected 97 = .ok (.getfield 39, 3) := by decide +kernel
theorem dX7_transvected_100 : decode cX7_transvected 100 = .ok (.iload 7, 2) := by decide +kernel
theorem dX7_transvected_102 : decode cX7_transvected 102 = .ok (.iload 7, 2) := by decide +kernel
theorem dX7_transvected_104 : decode cX7_transvected 104 = .ok (.aload_n 0, 1) := by decide +kernel
theorem dX7_transvected_105 : decode cX7_transvected 105 = .ok (.getfield 13, 3) := by decide +kernel
theorem dX7_transvected_108 : decode cX7_transvected 108 = .ok (.iload_n 2, 1) := by decide +kernel
theorem dX7_transvected_109 : decode cX7_transvected 109 = .ok (.iaload, 1) := by decide +kernel
theorem dX7_transvected_110 : decode cX7_transvected 110 = .ok (.if_icmp .gt 18, 3) := by decide +kernel
theorem dX7_transvected_113 : decode cX7_transvected 113 = .ok (.aload_n 0, 1) := by decide +kernel
theorem dX7_transvected_114 : decode cX7_transvected 114 = .ok (.aload_n 0, 1) := by decide +kernel
theorem dX7_transvected_115 : decode cX7_transvected 115 = .ok (.getfield 17, 3) := by decide +kernel
theorem dX7_transvected_118 : decode cX7_transvected 118 = .ok (.iload_n 2, 1) := by decide +kernel
theorem dX7_transvected_119 : decode cX7_transvected 119 = .ok (.iaload, 1) := by decide +kernel
theorem dX7_transvected_120 : decode cX7_transvected 120 = .ok (.iload 7, 2) := by decide +kernel
theorem dX7_transvected_122 : decode cX7_transvected 122 = .ok (.invokevirtual 84, 3) := by decide +kernel
theorem dX7_transvected_125 : decode cX7_transvected 125 = .ok (.goto 4, 3) := by decide +kernel
theorem dX7_transvected_128 : decode cX7_transvected 128 = .ok (.iconst 0, 1) := by decide +kernel
theorem dX7_transvected_129 : decode cX7_transvected 129 = .ok (.iastore, 1) := by decide +kernel
theorem dX7_transvected_130 : decode cX7_transvected 130 = .ok (.iinc 7 1, 3) := by decide +kernel
theorem dX7_transvected_133 : decode cX7_transvected 133 = .ok (.goto (-77), 3) := by decide +kernel
theorem dX7_transvected_136 : decode cX7_transvected 136 = .ok (.aload_n 0, 1) := by decide +kernel
theorem dX7_transvected_137 : decode cX7_transvected 137 = .ok (.aload_n 0, 1) := by decide +kernel
theorem dX7_transvected_138 : decode cX7_transvected 138 = .ok (.getfield 36, 3) := by decide +kernel
theorem dX7_transvected_141 : decode cX7_transvected 141 = .ok (.aload_n 0, 1) := by decide +kernel
theorem dX7_transvected_142 : decode cX7_transvected 142 = .ok (.getfield 13, 3) := by decide +kernel
theorem dX7_transvected_145 : decode cX7_transvected 145 = .ok (.iload_n 1, 1) := by decide +kernel
theorem dX7_transvected_146 : decode cX7_transvected 146 = .ok (.iaload, 1) := by decide +kernel
theorem dX7_transvected_147 : decode cX7_transvected 147 = .ok (.iload_n 3, 1) := by decide +kernel
theorem dX7_transvected_148 : decode cX7_transvected 148 = .ok (.iload 6, 2) := by decide +kernel
theorem dX7_transvected_150 : decode cX7_transvected 150 = .ok (.isub, 1) := by decide +kernel
theorem dX7_transvected_151 : decode cX7_transvected 151 = .ok (.iload 6, 2) := by decide +kernel
theorem dX7_transvected_153 : decode cX7_transvected 153 = .ok (.invokevirtual 148, 3) := by decide +kernel
theorem dX7_transvected_156 : decode cX7_transvected 156 = .ok (.aload_n 0, 1) := by decide +kernel
theorem dX7_transvected_157 : decode cX7_transvected 157 = .ok (.aload_n 0, 1) := by decide +kernel
theorem dX7_transvected_158 : decode cX7_transvected 158 = .ok (.getfield 39, 3) := by decide +kernel
theorem dX7_transvected_161 : decode cX7_transvected 161 = .ok (.aload_n 0, 1) := by decide +kernel
theorem dX7_transvected_162 : decode cX7_transvected 162 = .ok (.getfield 13, 3) := by decide +kernel
theorem dX7_transvected_165 : decode cX7_transvected 165 = .ok (.iload_n 2, 1) := by decide +kernel
theorem dX7_transvected_166 : decode cX7_transvected 166 = .ok (.iaload, 1) := by decide +kernel
theorem dX7_transvected_167 : decode cX7_transvected 167 = .ok (.iload 6, 2) := by decide +kernel
theorem dX7_transvected_169 : decode cX7_transvected 169 = .ok (.iload_n 3, 1) := by decide +kernel
theorem dX7_transvected_170 : decode cX7_transvected 170 = .ok (.iload 6, 2) := by decide +kernel
theorem dX7_transvected_172 : decode cX7_transvected 172 = .ok (.isub, 1) := by decide +kernel
theorem dX7_transvected_173 : decode cX7_transvected 173 = .ok (.invokevirtual 148, 3) := by decide +kernel
theorem dX7_transvected_176 : decode cX7_transvected 176 = .ok (.iload 6, 2) := by decide +kernel
theorem dX7_transvected_178 : decode cX7_transvected 178 = .ok (.iconst 2, 1) := by decide +kernel
theorem dX7_transvected_179 : decode cX7_transvected 179 = .ok (.irem, 1) := by decide +kernel
theorem dX7_transvected_180 : decode cX7_transvected 180 = .ok (.ifCond .ne 12, 3) := by decide +kernel
theorem dX7_transvected_183 : decode cX7_transvected 183 = .ok (.iload_n 3, 1) := by decide +kernel
theorem dX7_transvected_184 : decode cX7_transvected 184 = .ok (.iload 6, 2) := by decide +kernel
theorem dX7_transvected_186 : decode cX7_transvected 186 = .ok (.invokestatic 152, 3) := by decide +kernel
theorem dX7_transvected_189 : decode cX7_transvected 189 = .ok (.goto 10, 3) := by decide +kernel
