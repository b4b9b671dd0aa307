theorem dX7_transvected_192 : decode cX7_transvected 192 = .ok (.iload_n 3, 1) := by decide +kernel
theorem dX7_transvected_193 : decode cX7_transvected 193 = .ok (.iload 6, 2) := by decide +kernel
theorem dX7_transvected_195 : decode cX7_transvected 195 = .ok (.invokestatic 152, 3) := by decide +kernel
theorem dX7_transvected_198 : decode cX7_transvected 198 = .ok (.ineg, 1) := by decide +kernel
theorem dX7_transvected_199 : decode cX7_transvected 199 = .ok (.istore 7, 2) := by decide +kernel
theorem dX7_transvected_201 : decode cX7_transvected 201 = .ok (.iconst 0, 1) := by decide +kernel
theorem dX7_transvected_202 : decode cX7_transvected 202 = .ok (.istore 8, 2) := by decide +kernel
theorem dX7_transvected_204 : decode cX7_transvected 204 = .ok (.iload 8, 2) := by decide +kernel
theorem dX7_transvected_206 : decode cX7_transvected 206 = .ok (.iload 4, 2) := by decide +kernel
theorem dX7_transvected_208 : decode cX7_transvected 208 = .ok (.iload 5, 2) := by decide +kernel
theorem dX7_transvected_210 : decode cX7_transvected 210 = .ok (.iadd, 1) := by decide +kernel
theorem dX7_transvected_211 : decode cX7_transvected 211 = .ok (.if_icmp .gt 81, 3) := by decide +kernel
theorem dX7_transvected_214 : decode cX7_transvected 214 = .ok (.iconst 0, 1) := by decide +kernel
theorem dX7_transvected_215 : decode cX7_transvected 215 = .ok (.istore 9, 2) := by decide +kernel
theorem dX7_transvected_217 : decode cX7_transvected 217 = .ok (.iload 9, 2) := by decide +kernel
theorem dX7_transvected_219 : decode cX7_transvected 219 = .ok (.iload 8, 2) := by decide +kernel
theorem dX7_transvected_221 : decode cX7_transvected 221 = .ok (.if_icmp .gt 65, 3) := by decide +kernel
theorem dX7_transvected_224 : decode cX7_transvected 224 = .ok (.aload_n 0, 1) := by decide +kernel
theorem dX7_transvected_225 : decode cX7_transvected 225 = .ok (.getfield 42, 3) := by decide +kernel
theorem dX7_transvected_228 : decode cX7_transvected 228 = .ok (.iload 8, 2) := by decide +kernel
theorem dX7_transvected_230 : decode cX7_transvected 230 = .ok (.dup2, 1) := by decide +kernel
theorem dX7_transvected_231 : decode cX7_transvected 231 = .ok (.iaload, 1) := by decide +kernel
theorem dX7_transvected_232 : decode cX7_transvected 232 = .ok (.iload 9, 2) := by decide +kernel
theorem dX7_transvected_234 : decode cX7_transvected 234 = .ok (.iload 4, 2) := by decide +kernel
theorem dX7_transvected_236 : decode cX7_transvected 236 = .ok (.if_icmp .gt 41, 3) := by decide +kernel
theorem dX7_transvected_239 : decode cX7_transvected 239 = .ok (.iload 8, 2) := by decide +kernel
theorem dX7_transvected_241 : decode cX7_transvected 241 = .ok (.iload 9, 2) := by decide +kernel
theorem dX7_transvected_243 : decode cX7_transvected 243 = .ok (.isub, 1) := by decide +kernel
theorem dX7_transvected_244 : decode cX7_transvected 244 = .ok (.iload 5, 2) := by decide +kernel
theorem dX7_transvected_246 : decode cX7_transvected 246 = .ok (.if_icmp .gt 31, 3) := by decide +kernel
theorem dX7_transvected_249 : decode cX7_transvected 249 = .ok (.aload_n 0, 1) := by decide +kernel
theorem dX7_transvected_250 : decode cX7_transvected 250 = .ok (.iload 7, 2) := by decide +kernel
theorem dX7_transvected_252 : decode cX7_transvected 252 = .ok (.aload_n 0, 1) := by decide +kernel
theorem dX7_transvected_253 : decode cX7_transvected 253 = .ok (.getfield 36, 3) := by decide +kernel
theorem dX7_transvected_256 : decode cX7_transvected 256 = .ok (.iload 9, 2) := by decide +kernel
theorem dX7_transvected_258 : decode cX7_transvected 258 = .ok (.iaload, 1) := by decide +kernel
theorem dX7_transvected_259 : decode cX7_transvected 259 = .ok (.imul, 1) := by decide +kernel
theorem dX7_transvected_260 : decode cX7_transvected 260 = .ok (.aload_n 0, 1) := by decide +kernel
theorem dX7_transvected_261 : decode cX7_transvected 261 = .ok (.getfield 39, 3) := by decide +kernel
theorem dX7_transvected_264 : decode cX7_transvected 264 = .ok (.iload 8, 2) := by decide +kernel
theorem dX7_transvected_266 : decode cX7_transvected 266 = .ok (.iload 9, 2) := by decide +kernel
theorem dX7_transvected_268 : decode cX7_transvected 268 = .ok (.isub, 1) := by decide +kernel
theorem dX7_transvected_269 : decode cX7_transvected 269 = .ok (.iaload, 1) := by decide +kernel
theorem dX7_transvected_270 : decode cX7_transvected 270 = .ok (.imul, 1) := by decide +kernel
theorem dX7_transvected_271 : decode cX7_transvected 271 = .ok (.invokevirtual 88, 3) := by decide +kernel
theorem dX7_transvected_274 : decode cX7_transvected 274 = .ok (.goto 4, 3) := by decide +kernel
theorem dX7_transvected_277 : decode cX7_transvected 277 = .ok (.iconst 0, 1) := by decide +kernel
theorem dX7_transvected_278 : decode cX7_transvected 278 = .ok (.iadd, 1) := by decide +kernel
theorem dX7_transvected_279 : decode cX7_transvected 279 = .ok (.iastore, 1) := by decide +kernel
theorem dX7_transvected_280 : decode cX7_transvected 280 = .ok (.iinc 9 1, 3) := by decide +kernel
theorem dX7_transvected_283 : decode cX7_transvected 283 = .ok (.goto (-66), 3) := by decide +kernel
theorem dX7_transvected_286 : decode cX7_transvected 286 = .ok (.iinc 8 1, 3) := by decide +kernel
theorem dX7_transvected_289 : decode cX7_transvected 289 = .ok (.goto (-85), 3) := by decide +kernel
theorem dX7_transvected_292 : decode cX7_transvected 292 = .ok (.iinc 6 1, 3) := by decide +kernel
theorem dX7_transvected_295 : decode cX7_transvected 295 = .ok (.goto (-248), 3) := by decide +kernel
theorem dX7_transvected_298 : decode cX7_transvected 298 = .ok (.iconst 0, 1) := by decide +kernel
theorem dX7_transvected_299 : decode cX7_transvected 299 = .ok (.istore 6, 2) := by decide +kernel
theorem dX7_transvected_301 : decode cX7_transvected 301 = .ok (.iload 4, 2) := by decide +kernel
theorem dX7_transvected_303 : decode cX7_transvected 303 = .ok (.iload 5, 2) := by decide +kernel
theorem dX7_transvected_305 : decode cX7_transvected 305 = .ok (.iadd, 1) := by decide +kernel
theorem dX7_transvected_306 : decode cX7_transvected 306 = .ok (.istore 7, 2) := by decide +kernel
theorem dX7_transvected_308 : decode cX7_transvected 308 = .ok (.iload 7, 2) := by decide +kernel
theorem dX7_transvected_310 : decode cX7_transvected 310 = .ok (.ifCond .lt 30, 3) := by decide +kernel
theorem dX7_transvected_313 : decode cX7_transvected 313 = .ok (.aload_n 0, 1) := by decide +kernel
theorem dX7_transvected_314 : decode cX7_transvected 314 = .ok (.getfield 7, 3) := by decide +kernel
theorem dX7_transvected_317 : decode cX7_transvected 317 = .ok (.iload 6, 2) := by decide +kernel
theorem dX7_transvected_319 : decode cX7_transvected 319 = .ok (.imul, 1) := by decide +kernel
theorem dX7_transvected_320 : decode cX7_transvected 320 = .ok (.aload_n 0, 1) := by decide +kernel
theorem dX7_transvected_321 : decode cX7_transvected 321 = .ok (.aload_n 0, 1) := by decide +kernel
theorem dX7_transvected_322 : decode cX7_transvected 322 = .ok (.getfield 42, 3) := by decide +kernel
theorem dX7_transvected_325 : decode cX7_transvected 325 = .ok (.iload 7, 2) := by decide +kernel
theorem dX7_transvected_327 : decode cX7_transvected 327 = .ok (.iaload, 1) := by decide +kernel
theorem dX7_transvected_328 : decode cX7_transvected 328 = .ok (.invokevirtual 88, 3) := by decide +kernel
theorem dX7_transvected_331 : decode cX7_transvected 331 = .ok (.iadd, 1) := by decide +kernel
theorem dX7_transvected_332 : decode cX7_transvected 332 = .ok (.istore 6, 2) := by decide +kernel
theorem dX7_transvected_334 : decode cX7_transvected 334 = .ok (.iinc 7 (-1), 3) := by decide +kernel
theorem dX7_transvected_337 : decode cX7_transvected 337 = .ok (.goto (-29), 3) := by decide +kernel
theorem dX7_transvected_340 : decode cX7_transvected 340 = .ok (.iload 6, 2) := by decide +kernel
theorem dX7_transvected_342 : decode cX7_transvected 342 = .ok (.ireturn, 1) := by decide +kernel
set_option maxRecDepth 20000 in
theorem ggX7_transvectant_X7_isForm : GoodIn wsX7_transvectant wsX7_isForm := goodIn_r _ [6, 7, 8, 9, 5, 10, 48, 49, 50, 51, 52, 53, 54, 55, 56, 57, 58, 59, 60, 61, 62, 63, 64, 65, 66, 67, 68, 69] (by decide +kernel) (by decide +kernel)
set_option maxRecDepth 20000 in
theorem gX7_transvectant_X7_isForm : GoodIn wsX7_transvectant (wsV RX7 91 RX7 yX7_isForm wsX7_isForm) := goodIn_app (goodIn_of _ (by decide +kernel)) ggX7_transvectant_X7_isForm
set_option maxRecDepth 20000 in
theorem ggX7_transvectant_X7_isDegree : GoodIn wsX7_transvectant wsX7_isDegree := goodIn_r _ [14, 8, 9, 5, 10] (by decide +kernel) (by decide +kernel)
set_option maxRecDepth 20000 in
theorem gX7_transvectant_X7_isDegree : GoodIn wsX7_transvectant (wsV RX7 81 RX7 yX7_isDegree wsX7_isDegree) := goodIn_app (goodIn_of _ (by decide +kernel)) ggX7_transvectant_X7_isDegree
set_option maxRecDepth 20000 in
theorem ggX7_transvectant_X7_holds : GoodIn wsX7_transvectant wsX7_holds := goodIn_r _ [18, 19, 48, 49, 50, 51, 52, 53, 54, 55, 56, 57, 58, 59, 60, 61, 62, 63, 64, 65, 66, 67, 68, 69] (by decide +kernel) (by decide +kernel)
set_option maxRecDepth 20000 in
theorem gX7_transvectant_X7_holds : GoodIn wsX7_transvectant (wsV RX7 74 RX7 yX7_holds wsX7_holds) := goodIn_app (goodIn_of _ (by decide +kernel)) ggX7_transvectant_X7_holds
set_option maxRecDepth 20000 in
theorem ggX7_transvectant_X7_transvected : GoodIn wsX7_transvectant wsX7_transvected := goodIn_r _ [23, 1, 24, 25, 26, 27, 28, 29, 30, 31, 5, 32, 33, 34, 35, 36, 37, 38, 39, 40, 41, 42, 43, 44, 45, 46, 47, 48, 49, 50, 51, 52, 53, 54, 55, 56, 57, 58, 59, 60, 61, 62, 63, 64, 65, 66, 67, 68, 69] (by decide +kernel) (by decide +kernel)
set_option maxRecDepth 20000 in
theorem gX7_transvectant_X7_transvected : GoodIn wsX7_transvectant (wsV RX7 155 RX7 yX7_transvected wsX7_transvected) := goodIn_app (goodIn_of _ (by decide +kernel)) ggX7_transvectant_X7_transvected
theorem dX7_transvectant_0 : decode cX7_transvectant 0 = .ok (.aload_n 0, 1) := by decide +kernel
theorem dX7_transvectant_1 : decode cX7_transvectant 1 = .ok (.iload_n 1, 1) := by decide +kernel
theorem dX7_transvectant_2 : decode cX7_transvectant 2 = .ok (.invokevirtual 91, 3) := by decide +kernel
theorem dX7_transvectant_5 : decode cX7_transvectant 5 = .ok (.ifCond .eq 15, 3) := by decide +kernel
theorem dX7_transvectant_8 : decode cX7_transvectant 8 = .ok (.aload_n 0, 1) := by decide +kernel
theorem dX7_transvectant_9 : decode cX7_transvectant 9 = .ok (.iload_n 2, 1) := by decide +kernel
theorem dX7_transvectant_10 : decode cX7_transvectant 10 = .ok (.invokevirtual 91, 3) := by decide +kernel
theorem dX7_transvectant_13 : decode cX7_transvectant 13 = .ok (.ifCond .eq 7, 3) := by decide +kernel
theorem dX7_transvectant_16 : decode cX7_transvectant 16 = .ok (.iconst 1, 1) := by decide +kernel
theorem dX7_transvectant_17 : decode cX7_transvectant 17 = .ok (.goto 4, 3) := by decide +kernel
theorem dX7_transvectant_20 : decode cX7_transvectant 20 = .ok (.iconst 0, 1) := by decide +kernel
theorem dX7_transvectant_21 : decode cX7_transvectant 21 = .ok (.istore 4, 2) := by decide +kernel
theorem dX7_transvectant_23 : decode cX7_transvectant 23 = .ok (.iload 4, 2) := by decide +kernel
theorem dX7_transvectant_25 : decode cX7_transvectant 25 = .ok (.ifCond .eq 55, 3) := by decide +kernel
theorem dX7_transvectant_28 : decode cX7_transvectant 28 = .ok (.iload_n 3, 1) := by decide +kernel
theorem dX7_transvectant_29 : decode cX7_transvectant 29 = .ok (.ifCond .lt 51, 3) := by decide +kernel
theorem dX7_transvectant_32 : decode cX7_transvectant 32 = .ok (.iload_n 3, 1) := by decide +kernel
theorem dX7_transvectant_33 : decode cX7_transvectant 33 = .ok (.aload_n 0, 1) := by decide +kernel
theorem dX7_transvectant_34 : decode cX7_transvectant 34 = .ok (.getfield 13, 3) := by decide +kernel
theorem dX7_transvectant_37 : decode cX7_transvectant 37 = .ok (.iload_n 1, 1) := by decide +kernel
theorem dX7_transvectant_38 : decode cX7_transvectant 38 = .ok (.iaload, 1) := by decide +kernel
theorem dX7_transvectant_39 : decode cX7_transvectant 39 = .ok (.if_icmp .gt 41, 3) := by decide +kernel
theorem dX7_transvectant_42 : decode cX7_transvectant 42 = .ok (.iload_n 3, 1) := by decide +kernel
theorem dX7_transvectant_43 : decode cX7_transvectant 43 = .ok (.aload_n 0, 1) := by decide +kernel
theorem dX7_transvectant_44 : decode cX7_transvectant 44 = .ok (.getfield 13, 3) := by decide +kernel
theorem dX7_transvectant_47 : decode cX7_transvectant 47 = .ok (.iload_n 2, 1) := by decide +kernel
theorem dX7_transvectant_48 : decode cX7_transvectant 48 = .ok (.iaload, 1) := by decide +kernel
theorem dX7_transvectant_49 : decode cX7_transvectant 49 = .ok (.if_icmp .gt 31, 3) := by decide +kernel
theorem dX7_transvectant_52 : decode cX7_transvectant 52 = .ok (.aload_n 0, 1) := by decide +kernel
theorem dX7_transvectant_53 : decode cX7_transvectant 53 = .ok (.aload_n 0, 1) := by decide +kernel
theorem dX7_transvectant_54 : decode cX7_transvectant 54 = .ok (.getfield 13, 3) := by decide +kernel
theorem dX7_transvectant_57 : decode cX7_transvectant 57 = .ok (.iload_n 1, 1) := by decide +kernel
theorem dX7_transvectant_58 : decode cX7_transvectant 58 = .ok (.iaload, 1) := by decide +kernel
theorem dX7_transvectant_59 : decode cX7_transvectant 59 = .ok (.aload_n 0, 1) := by decide +kernel
theorem dX7_transvectant_60 : decode cX7_transvectant 60 = .ok (.getfield 13, 3) := by decide +kernel
theorem dX7_transvectant_63 : decode cX7_transvectant 63 = .ok (.iload_n 2, 1) := by decide +kernel
theorem dX7_transvectant_64 : decode cX7_transvectant 64 = .ok (.iaload, 1) := by decide +kernel
theorem dX7_transvectant_65 : decode cX7_transvectant 65 = .ok (.iadd, 1) := by decide +kernel
theorem dX7_transvectant_66 : decode cX7_transvectant 66 = .ok (.iconst 2, 1) := by decide +kernel
theorem dX7_transvectant_67 : decode cX7_transvectant 67 = .ok (.iload_n 3, 1) := by decide +kernel
theorem dX7_transvectant_68 : decode cX7_transvectant 68 = .ok (.imul, 1) := by decide +kernel
theorem dX7_transvectant_69 : decode cX7_transvectant 69 = .ok (.isub, 1) := by decide +kernel
theorem dX7_transvectant_70 : decode cX7_transvectant 70 = .ok (.invokevirtual 81, 3) := by decide +kernel
theorem dX7_transvectant_73 : decode cX7_transvectant 73 = .ok (.ifCond .eq 7, 3) := by decide +kernel
theorem dX7_transvectant_76 : decode cX7_transvectant 76 = .ok (.iconst 1, 1) := by decide +kernel
theorem dX7_transvectant_77 : decode cX7_transvectant 77 = .ok (.goto 4, 3) := by decide +kernel
theorem dX7_transvectant_80 : decode cX7_transvectant 80 = .ok (.iconst 0, 1) := by decide +kernel
theorem dX7_transvectant_81 : decode cX7_transvectant 81 = .ok (.istore 5, 2) := by decide +kernel
theorem dX7_transvectant_83 : decode cX7_transvectant 83 = .ok (.aload_n 0, 1) := by decide +kernel
theorem dX7_transvectant_84 : decode cX7_transvectant 84 = .ok (.iload 4, 2) := by decide +kernel
theorem dX7_transvectant_86 : decode cX7_transvectant 86 = .ok (.ifCond .ne 7, 3) := by decide +kernel
theorem dX7_transvectant_89 : decode cX7_transvectant 89 = .ok (.iconst 1, 1) := by decide +kernel
theorem dX7_transvectant_90 : decode cX7_transvectant 90 = .ok (.goto 13, 3) := by decide +kernel
theorem dX7_transvectant_93 : decode cX7_transvectant 93 = .ok (.iload 5, 2) := by decide +kernel
theorem dX7_transvectant_95 : decode cX7_transvectant 95 = .ok (.ifCond .ne 7, 3) := by decide +kernel
theorem dX7_transvectant_98 : decode cX7_transvectant 98 = .ok (.iconst 2, 1) := by decide +kernel
theorem dX7_transvectant_99 : decode cX7_transvectant 99 = .ok (.goto 4, 3) := by decide +kernel
theorem dX7_transvectant_102 : decode cX7_transvectant 102 = .ok (.iconst 0, 1) := by decide +kernel
theorem dX7_transvectant_103 : decode cX7_transvectant 103 = .ok (.invokevirtual 74, 3) := by decide +kernel
theorem dX7_transvectant_106 : decode cX7_transvectant 106 = .ok (.ifCond .eq 13, 3) := by decide +kernel
theorem dX7_transvectant_109 : decode cX7_transvectant 109 = .ok (.aload_n 0, 1) := by decide +kernel
theorem dX7_transvectant_110 : decode cX7_transvectant 110 = .ok (.iload_n 1, 1) := by decide +kernel
theorem dX7_transvectant_111 : decode cX7_transvectant 111 = .ok (.iload_n 2, 1) := by decide +kernel
theorem dX7_transvectant_112 : decode cX7_transvectant 112 = .ok (.iload_n 3, 1) := by decide +kernel
theorem dX7_transvectant_113 : decode cX7_transvectant 113 = .ok (.invokevirtual 155, 3) := by decide +kernel
theorem dX7_transvectant_116 : decode cX7_transvectant 116 = .ok (.goto 4, 3) := by decide +kernel
theorem dX7_transvectant_119 : decode cX7_transvectant 119 = .ok (.iconst 0, 1) := by decide +kernel
theorem dX7_transvectant_120 : decode cX7_transvectant 120 = .ok (.ireturn, 1) := by decide +kernel
theorem dX7_values_0 : decode cX7_values 0 = .ok (.iload_n 0, 1) := by decide +kernel
theorem dX7_values_1 : decode cX7_values 1 = .ok (.iconst 1, 1) := by decide +kernel
theorem dX7_values_2 : decode cX7_values 2 = .ok (.if_icmp .ne 7, 3) := by decide +kernel
theorem dX7_values_5 : decode cX7_values 5 = .ok (.iconst 0, 1) := by decide +kernel
theorem dX7_values_6 : decode cX7_values 6 = .ok (.goto 13, 3) := by decide +kernel
theorem dX7_values_9 : decode cX7_values 9 = .ok (.iload_n 0, 1) := by decide +kernel
theorem dX7_values_10 : decode cX7_values 10 = .ok (.iconst 4, 1) := by decide +kernel
theorem dX7_values_11 : decode cX7_values 11 = .ok (.if_icmp .ne 7, 3) := by decide +kernel
theorem dX7_values_14 : decode cX7_values 14 = .ok (.iconst 2, 1) := by decide +kernel
theorem dX7_values_15 : decode cX7_values 15 = .ok (.goto 4, 3) := by decide +kernel
theorem dX7_values_18 : decode cX7_values 18 = .ok (.iconst 1, 1) := by decide +kernel
theorem dX7_values_19 : decode cX7_values 19 = .ok (.ireturn, 1) := by decide +kernel
theorem dX7_weight_0 : decode cX7_weight 0 = .ok (.iload_n 0, 1) := by decide +kernel
theorem dX7_weight_1 : decode cX7_weight 1 = .ok (.iconst 2, 1) := by decide +kernel
theorem dX7_weight_2 : decode cX7_weight 2 = .ok (.if_icmp .ne 7, 3) := by decide +kernel
theorem dX7_weight_5 : decode cX7_weight 5 = .ok (.iconst 2, 1) := by decide +kernel
theorem dX7_weight_6 : decode cX7_weight 6 = .ok (.goto 18, 3) := by decide +kernel
theorem dX7_weight_9 : decode cX7_weight 9 = .ok (.iload_n 0, 1) := by decide +kernel
theorem dX7_weight_10 : decode cX7_weight 10 = .ok (.iconst 4, 1) := by decide +kernel
theorem dX7_weight_11 : decode cX7_weight 11 = .ok (.if_icmp .ne 11, 3) := by decide +kernel
theorem dX7_weight_14 : decode cX7_weight 14 = .ok (.iload_n 1, 1) := by decide +kernel
theorem dX7_weight_15 : decode cX7_weight 15 = .ok (.ifCond .ne 7, 3) := by decide +kernel
theorem dX7_weight_18 : decode cX7_weight 18 = .ok (.iconst 4, 1) := by decide +kernel
theorem dX7_weight_19 : decode cX7_weight 19 = .ok (.goto 5, 3) := by decide +kernel
theorem dX7_weight_22 : decode cX7_weight 22 = .ok (.bipush 6, 2) := by decide +kernel
theorem dX7_weight_24 : decode cX7_weight 24 = .ok (.ireturn, 1) := by decide +kernel
set_option maxRecDepth 20000 in
theorem ggX7_valueOf_X7_figure : GoodIn wsX7_valueOf wsX7_figure := goodIn_r _ [5, 6, 7, 8, 9, 4, 10, 15, 16, 17, 18, 19, 20, 21, 22, 23, 24, 25, 26, 27, 28, 29, 30, 31, 32, 33, 34, 35, 36] (by decide +kernel) (by decide +kernel)
set_option maxRecDepth 20000 in
theorem gX7_valueOf_X7_figure : GoodIn wsX7_valueOf (wsV RX7 84 RX7 yX7_figure wsX7_figure) := goodIn_app (goodIn_of _ (by decide +kernel)) ggX7_valueOf_X7_figure
set_option maxRecDepth 20000 in
theorem ggX7_valueOf_X7_mod : GoodIn wsX7_valueOf wsX7_mod := goodIn_r _ [14, 6, 15, 16, 17, 18, 19, 20, 21, 22, 23, 24, 25, 26, 27, 28, 29, 30, 31, 32, 33, 34, 35, 36] (by decide +kernel) (by decide +kernel)
set_option maxRecDepth 20000 in
theorem gX7_valueOf_X7_mod : GoodIn wsX7_valueOf (wsV RX7 88 RX7 yX7_mod wsX7_mod) := goodIn_app (goodIn_of _ (by decide +kernel)) ggX7_valueOf_X7_mod
theorem dX7_valueOf_0 : decode cX7_valueOf 0 = .ok (.aload_n 0, 1) := by decide +kernel
theorem dX7_valueOf_1 : decode cX7_valueOf 1 = .ok (.iload_n 1, 1) := by decide +kernel
theorem dX7_valueOf_2 : decode cX7_valueOf 2 = .ok (.iconst 0, 1) := by decide +kernel
theorem dX7_valueOf_3 : decode cX7_valueOf 3 = .ok (.invokevirtual 84, 3) := by decide +kernel
theorem dX7_valueOf_6 : decode cX7_valueOf 6 = .ok (.istore 4, 2) := by decide +kernel
theorem dX7_valueOf_8 : decode cX7_valueOf 8 = .ok (.aload_n 0, 1) := by decide +kernel
theorem dX7_valueOf_9 : decode cX7_valueOf 9 = .ok (.iload_n 1, 1) := by decide +kernel
theorem dX7_valueOf_10 : decode cX7_valueOf 10 = .ok (.iconst 1, 1) := by decide +kernel
theorem dX7_valueOf_11 : decode cX7_valueOf 11 = .ok (.invokevirtual 84, 3) := by decide +kernel
theorem dX7_valueOf_14 : decode cX7_valueOf 14 = .ok (.istore 5, 2) := by decide +kernel
theorem dX7_valueOf_16 : decode cX7_valueOf 16 = .ok (.aload_n 0, 1) := by decide +kernel
theorem dX7_valueOf_17 : decode cX7_valueOf 17 = .ok (.iload_n 1, 1) := by decide +kernel
theorem dX7_valueOf_18 : decode cX7_valueOf 18 = .ok (.iconst 2, 1) := by decide +kernel
theorem dX7_valueOf_19 : decode cX7_valueOf 19 = .ok (.invokevirtual 84, 3) := by decide +kernel
theorem dX7_valueOf_22 : decode cX7_valueOf 22 = .ok (.istore 6, 2) := by decide +kernel
theorem dX7_valueOf_24 : decode cX7_valueOf 24 = .ok (.aload_n 0, 1) := by decide +kernel
theorem dX7_valueOf_25 : decode cX7_valueOf 25 = .ok (.iload_n 1, 1) := by decide +kernel
theorem dX7_valueOf_26 : decode cX7_valueOf 26 = .ok (.iconst 3, 1) := by decide +kernel
theorem dX7_valueOf_27 : decode cX7_valueOf 27 = .ok (.invokevirtual 84, 3) := by decide +kernel
theorem dX7_valueOf_30 : decode cX7_valueOf 30 = .ok (.istore 7, 2) := by decide +kernel
theorem dX7_valueOf_32 : decode cX7_valueOf 32 = .ok (.aload_n 0, 1) := by decide +kernel
theorem dX7_valueOf_33 : decode cX7_valueOf 33 = .ok (.iload_n 1, 1) := by decide +kernel
theorem dX7_valueOf_34 : decode cX7_valueOf 34 = .ok (.iconst 4, 1) := by decide +kernel
theorem dX7_valueOf_35 : decode cX7_valueOf 35 = .ok (.invokevirtual 84, 3) := by decide +kernel
theorem dX7_valueOf_38 : decode cX7_valueOf 38 = .ok (.istore 8, 2) := by decide +kernel
theorem dX7_valueOf_40 : decode cX7_valueOf 40 = .ok (.iload_n 2, 1) := by decide +kernel
theorem dX7_valueOf_41 : decode cX7_valueOf 41 = .ok (.iconst 2, 1) := by decide +kernel
theorem dX7_valueOf_42 : decode cX7_valueOf 42 = .ok (.if_icmp .ne 21, 3) := by decide +kernel
theorem dX7_valueOf_45 : decode cX7_valueOf 45 = .ok (.aload_n 0, 1) := by decide +kernel
theorem dX7_valueOf_46 : decode cX7_valueOf 46 = .ok (.iload 5, 2) := by decide +kernel
theorem dX7_valueOf_48 : decode cX7_valueOf 48 = .ok (.iload 5, 2) := by decide +kernel
theorem dX7_valueOf_50 : decode cX7_valueOf 50 = .ok (.imul, 1) := by decide +kernel
theorem dX7_valueOf_51 : decode cX7_valueOf 51 = .ok (.iconst 4, 1) := by decide +kernel
theorem dX7_valueOf_52 : decode cX7_valueOf 52 = .ok (.iload 4, 2) := by decide +kernel
theorem dX7_valueOf_54 : decode cX7_valueOf 54 = .ok (.imul, 1) := by decide +kernel
theorem dX7_valueOf_55 : decode cX7_valueOf 55 = .ok (.iload 6, 2) := by decide +kernel
theorem dX7_valueOf_57 : decode cX7_valueOf 57 = .ok (.imul, 1) := by decide +kernel
theorem dX7_valueOf_58 : decode cX7_valueOf 58 = .ok (.isub, 1) := by decide +kernel
theorem dX7_valueOf_59 : decode cX7_valueOf 59 = .ok (.invokevirtual 88, 3) := by decide +kernel
theorem dX7_valueOf_62 : decode cX7_valueOf 62 = .ok (.ireturn, 1) := by decide +kernel
theorem dX7_valueOf_63 : decode cX7_valueOf 63 = .ok (.iload_n 2, 1) := by decide +kernel
theorem dX7_valueOf_64 : decode cX7_valueOf 64 = .ok (.iconst 3, 1) := by decide +kernel
theorem dX7_valueOf_65 : decode cX7_valueOf 65 = .ok (.if_icmp .ne 77, 3) := by decide +kernel
theorem dX7_valueOf_68 : decode cX7_valueOf 68 = .ok (.aload_n 0, 1) := by decide +kernel
theorem dX7_valueOf_69 : decode cX7_valueOf 69 = .ok (.iload 5, 2) := by decide +kernel
theorem dX7_valueOf_71 : decode cX7_valueOf 71 = .ok (.iload 5, 2) := by decide +kernel
theorem dX7_valueOf_73 : decode cX7_valueOf 73 = .ok (.imul, 1) := by decide +kernel
theorem dX7_valueOf_74 : decode cX7_valueOf 74 = .ok (.iload 6, 2) := by decide +kernel
theorem dX7_valueOf_76 : decode cX7_valueOf 76 = .ok (.imul, 1) := by decide +kernel
theorem dX7_valueOf_77 : decode cX7_valueOf 77 = .ok (.iload 6, 2) := by decide +kernel
theorem dX7_valueOf_79 : decode cX7_valueOf 79 = .ok (.imul, 1) := by decide +kernel
theorem dX7_valueOf_80 : decode cX7_valueOf 80 = .ok (.iconst 4, 1) := by decide +kernel
theorem dX7_valueOf_81 : decode cX7_valueOf 81 = .ok (.iload 4, 2) := by decide +kernel
theorem dX7_valueOf_83 : decode cX7_valueOf 83 = .ok (.imul, 1) := by decide +kernel
theorem dX7_valueOf_84 : decode cX7_valueOf 84 = .ok (.iload 6, 2) := by decide +kernel
theorem dX7_valueOf_86 : decode cX7_valueOf 86 = .ok (.imul, 1) := by decide +kernel
theorem dX7_valueOf_87 : decode cX7_valueOf 87 = .ok (.iload 6, 2) := by decide +kernel
theorem dX7_valueOf_89 : decode cX7_valueOf 89 = .ok (.imul, 1) := by decide +kernel
theorem dX7_valueOf_90 : decode cX7_valueOf 90 = .ok (.iload 6, 2) := by decide +kernel
theorem dX7_valueOf_92 : decode cX7_valueOf 92 = .ok (.imul, 1) := by decide +kernel
theorem dX7_valueOf_93 : decode cX7_valueOf 93 = .ok (.isub, 1) := by decide +kernel
theorem dX7_valueOf_94 : decode cX7_valueOf 94 = .ok (.iconst 4, 1) := by decide +kernel
theorem dX7_valueOf_95 : decode cX7_valueOf 95 = .ok (.iload 5, 2) := by decide +kernel
theorem dX7_valueOf_97 : decode cX7_valueOf 97 = .ok (.imul, 1) := by decide +kernel
theorem dX7_valueOf_98 : decode cX7_valueOf 98 = .ok (.iload 5, 2) := by decide +kernel
theorem dX7_valueOf_100 : decode cX7_valueOf 100 = .ok (.imul, 1) := by decide +kernel
theorem dX7_valueOf_101 : decode cX7_valueOf 101 = .ok (.iload 5, 2) := by decide +kernel
theorem dX7_valueOf_103 : decode cX7_valueOf 103 = .ok (.imul, 1) := by decide +kernel
theorem dX7_valueOf_104 : decode cX7_valueOf 104 = .ok (.iload 7, 2) := by decide +kernel
theorem dX7_valueOf_106 : decode cX7_valueOf 106 = .ok (.imul, 1) := by decide +kernel
theorem dX7_valueOf_107 : decode cX7_valueOf 107 = .ok (.isub, 1) := by decide +kernel
theorem dX7_valueOf_108 : decode cX7_valueOf 108 = .ok (.bipush 27, 2) := by decide +kernel
theorem dX7_valueOf_110 : decode cX7_valueOf 110 = .ok (.iload 4, 2) := by decide +kernel
theorem dX7_valueOf_112 : decode cX7_valueOf 112 = .ok (.imul, 1) := by decide +kernel
theorem dX7_valueOf_113 : decode cX7_valueOf 113 = .ok (.iload 4, 2) := by decide +kernel
theorem dX7_valueOf_115 : decode cX7_valueOf 115 = .ok (.imul, 1) := by decide +kernel
theorem dX7_valueOf_116 : decode cX7_valueOf 116 = .ok (.iload 7, 2) := by decide +kernel
theorem dX7_valueOf_118 : decode cX7_valueOf 118 = .ok (.imul, 1) := by decide +kernel
theorem dX7_valueOf_119 : decode cX7_valueOf 119 = .ok (.iload 7, 2) := by decide +kernel
theorem dX7_valueOf_121 : decode cX7_valueOf 121 = .ok (.imul, 1) := by decide +kernel
theorem dX7_valueOf_122 : decode cX7_valueOf 122 = .ok (.isub, 1) := by decide +kernel
theorem dX7_valueOf_123 : decode cX7_valueOf 123 = .ok (.bipush 18, 2) := by decide +kernel
theorem dX7_valueOf_125 : decode cX7_valueOf 125 = .ok (.iload 4, 2) := by decide +kernel
theorem dX7_valueOf_127 : decode cX7_valueOf 127 = .ok (.imul, 1) := by decide +kernel
theorem dX7_valueOf_128 : decode cX7_valueOf 128 = .ok (.iload 5, 2) := by decide +kernel
theorem dX7_valueOf_130 : decode cX7_valueOf 130 = .ok (.imul, 1) := by decide +kernel
theorem dX7_valueOf_131 : decode cX7_valueOf 131 = .ok (.iload 6, 2) := by decide +kernel
theorem dX7_valueOf_133 : decode cX7_valueOf 133 = .ok (.imul, 1) := by decide +kernel
theorem dX7_valueOf_134 : decode cX7_valueOf 134 = .ok (.iload 7, 2) := by decide +kernel
theorem dX7_valueOf_136 : decode cX7_valueOf 136 = .ok (.imul, 1) := by decide +kernel
theorem dX7_valueOf_137 : decode cX7_valueOf 137 = .ok (.iadd, 1) := by decide +kernel
theorem dX7_valueOf_138 : decode cX7_valueOf 138 = .ok (.invokevirtual 88, 3) := by decide +kernel
theorem dX7_valueOf_141 : decode cX7_valueOf 141 = .ok (.ireturn, 1) := by decide +kernel
theorem dX7_valueOf_142 : decode cX7_valueOf 142 = .ok (.aload_n 0, 1) := by decide +kernel
theorem dX7_valueOf_143 : decode cX7_valueOf 143 = .ok (.iload_n 3, 1) := by decide +kernel
theorem dX7_valueOf_144 : decode cX7_valueOf 144 = .ok (.ifCond .ne 28, 3) := by decide +kernel
theorem dX7_valueOf_147 : decode cX7_valueOf 147 = .ok (.bipush 12, 2) := by decide +kernel
theorem dX7_valueOf_149 : decode cX7_valueOf 149 = .ok (.iload 4, 2) := by decide +kernel
theorem dX7_valueOf_151 : decode cX7_valueOf 151 = .ok (.imul, 1) := by decide +kernel
theorem dX7_valueOf_152 : decode cX7_valueOf 152 = .ok (.iload 8, 2) := by decide +kernel
theorem dX7_valueOf_154 : decode cX7_valueOf 154 = .ok (.imul, 1) := by decide +kernel
theorem dX7_valueOf_155 : decode cX7_valueOf 155 = .ok (.iconst 3, 1) := by decide +kernel
theorem dX7_valueOf_156 : decode cX7_valueOf 156 = .ok (.iload 5, 2) := by decide +kernel
theorem dX7_valueOf_158 : decode cX7_valueOf 158 = .ok (.imul, 1) := by decide +kernel
theorem dX7_valueOf_159 : decode cX7_valueOf 159 = .ok (.iload 7, 2) := by decide +kernel
theorem dX7_valueOf_161 : decode cX7_valueOf 161 = .ok (.imul, 1) := by decide +kernel
theorem dX7_valueOf_162 : decode cX7_valueOf 162 = .ok (.isub, 1) := by decide +kernel
theorem dX7_valueOf_163 : decode cX7_valueOf 163 = .ok (.iload 6, 2) := by decide +kernel
theorem dX7_valueOf_165 : decode cX7_valueOf 165 = .ok (.iload 6, 2) := by decide +kernel
theorem dX7_valueOf_167 : decode cX7_valueOf 167 = .ok (.imul, 1) := by decide +kernel
theorem dX7_valueOf_168 : decode cX7_valueOf 168 = .ok (.iadd, 1) := by decide +kernel
theorem dX7_valueOf_169 : decode cX7_valueOf 169 = .ok (.goto 61, 3) := by decide +kernel
theorem dX7_valueOf_172 : decode cX7_valueOf 172 = .ok (.bipush 72, 2) := by decide +kernel
theorem dX7_valueOf_174 : decode cX7_valueOf 174 = .ok (.iload 4, 2) := by decide +kernel
theorem dX7_valueOf_176 : decode cX7_valueOf 176 = .ok (.imul, 1) := by decide +kernel
theorem dX7_valueOf_177 : decode cX7_valueOf 177 = .ok (.iload 6, 2) := by decide +kernel
theorem dX7_valueOf_179 : decode cX7_valueOf 179 = .ok (.imul, 1) := by decide +kernel
theorem dX7_valueOf_180 : decode cX7_valueOf 180 = .ok (.iload 8, 2) := by decide +kernel
theorem dX7_valueOf_182 : decode cX7_valueOf 182 = .ok (.imul, 1) := by decide +kernel
theorem dX7_valueOf_183 : decode cX7_valueOf 183 = .ok (.bipush 9, 2) := by decide +kernel
theorem dX7_valueOf_185 : decode cX7_valueOf 185 = .ok (.iload 5, 2) := by decide +kernel
theorem dX7_valueOf_187 : decode cX7_valueOf 187 = .ok (.imul, 1) := by decide +kernel
theorem dX7_valueOf_188 : decode cX7_valueOf 188 = .ok (.iload 6, 2) := by decide +kernel
theorem dX7_valueOf_190 : decode cX7_valueOf 190 = .ok (.imul, 1) := by decide +kernel
theorem dX7_valueOf_191 : decode cX7_valueOf 191 = .ok (.iload 7, 2) := by decide +kernel
theorem dX7_valueOf_193 : decode cX7_valueOf 193 = .ok (.imul, 1) := by decide +kernel
theorem dX7_valueOf_194 : decode cX7_valueOf 194 = .ok (.iadd, 1) := by decide +kernel
theorem dX7_valueOf_195 : decode cX7_valueOf 195 = .ok (.bipush 27, 2) := by decide +kernel
theorem dX7_valueOf_197 : decode cX7_valueOf 197 = .ok (.iload 4, 2) := by decide +kernel
theorem dX7_valueOf_199 : decode cX7_valueOf 199 = .ok (.imul, 1) := by decide +kernel
theorem dX7_valueOf_200 : decode cX7_valueOf 200 = .ok (.iload 7, 2) := by decide +kernel
theorem dX7_valueOf_202 : decode cX7_valueOf 202 = .ok (.imul, 1) := by decide +kernel
theorem dX7_valueOf_203 : decode cX7_valueOf 203 = .ok (.iload 7, 2) := by decide +kernel
theorem dX7_valueOf_205 : decode cX7_valueOf 205 = .ok (.imul, 1) := by decide +kernel
theorem dX7_valueOf_206 : decode cX7_valueOf 206 = .ok (.isub, 1) := by decide +kernel
theorem dX7_valueOf_207 : decode cX7_valueOf 207 = .ok (.bipush 27, 2) := by decide +kernel
theorem dX7_valueOf_209 : decode cX7_valueOf 209 = .ok (.iload 8, 2) := by decide +kernel
theorem dX7_valueOf_211 : decode cX7_valueOf 211 = .ok (.imul, 1) := by decide +kernel
theorem dX7_valueOf_212 : decode cX7_valueOf 212 = .ok (.iload 5, 2) := by decide +kernel
theorem dX7_valueOf_214 : decode cX7_valueOf 214 = .ok (.imul, 1) := by decide +kernel
theorem dX7_valueOf_215 : decode cX7_valueOf 215 = .ok (.iload 5, 2) := by decide +kernel
theorem dX7_valueOf_217 : decode cX7_valueOf 217 = .ok (.imul, 1) := by decide +kernel
theorem dX7_valueOf_218 : decode cX7_valueOf 218 = .ok (.isub, 1) := by decide +kernel
theorem dX7_valueOf_219 : decode cX7_valueOf 219 = .ok (.iconst 2, 1) := by decide +kernel
theorem dX7_valueOf_220 : decode cX7_valueOf 220 = .ok (.iload 6, 2) := by decide +kernel
theorem dX7_valueOf_222 : decode cX7_valueOf 222 = .ok (.imul, 1) := by decide +kernel
theorem dX7_valueOf_223 : decode cX7_valueOf 223 = .ok (.iload 6, 2) := by decide +kernel
theorem dX7_valueOf_225 : decode cX7_valueOf 225 = .ok (.imul, 1) := by decide +kernel
theorem dX7_valueOf_226 : decode cX7_valueOf 226 = .ok (.iload 6, 2) := by decide +kernel
theorem dX7_valueOf_228 : decode cX7_valueOf 228 = .ok (.imul, 1) := by decide +kernel
theorem dX7_valueOf_229 : decode cX7_valueOf 229 = .ok (.isub, 1) := by decide +kernel
theorem dX7_valueOf_230 : decode cX7_valueOf 230 = .ok (.invokevirtual 88, 3) := by decide +kernel
theorem dX7_valueOf_233 : decode cX7_valueOf 233 = .ok (.ireturn, 1) := by decide +kernel
set_option maxRecDepth 20000 in
theorem ggX7_value_X7_isForm : GoodIn wsX7_value wsX7_isForm := goodIn_r _ [7, 8, 9, 10, 6, 11, 37, 38, 39, 40, 41, 42, 43, 44, 45, 46, 47, 48, 49, 50, 51, 52, 53, 54, 55, 56, 57, 58] (by decide +kernel) (by decide +kernel)
set_option maxRecDepth 20000 in
theorem gX7_value_X7_isForm : GoodIn wsX7_value (wsV RX7 91 RX7 yX7_isForm wsX7_isForm) := goodIn_app (goodIn_of _ (by decide +kernel)) ggX7_value_X7_isForm
set_option maxRecDepth 20000 in
theorem ggX7_value_X7_values : GoodIn wsX7_value wsX7_values := goodIn_r _ [14] (by decide +kernel) (by decide +kernel)
set_option maxRecDepth 20000 in
theorem gX7_value_X7_values : GoodIn wsX7_value (va_wsS RX7 158 yX7_values wsX7_values) := goodIn_app (goodIn_of _ (by decide +kernel)) ggX7_value_X7_values
set_option maxRecDepth 20000 in
theorem ggX7_value_X7_isIn : GoodIn wsX7_value wsX7_isIn := goodIn_r _ [11] (by decide +kernel) (by decide +kernel)
set_option maxRecDepth 20000 in
theorem gX7_value_X7_isIn : GoodIn wsX7_value (va_wsS RX7 66 yX7_isIn wsX7_isIn) := goodIn_app (goodIn_of _ (by decide +kernel)) ggX7_value_X7_isIn
set_option maxRecDepth 20000 in
theorem ggX7_value_X7_holds : GoodIn wsX7_value wsX7_holds := goodIn_r _ [18, 19, 37, 38, 39, 40, 41, 42, 43, 44, 45, 46, 47, 48, 49, 50, 51, 52, 53, 54, 55, 56, 57, 58] (by decide +kernel) (by decide +kernel)
set_option maxRecDepth 20000 in
theorem gX7_value_X7_holds : GoodIn wsX7_value (wsV RX7 74 RX7 yX7_holds wsX7_holds) := goodIn_app (goodIn_of _ (by decide +kernel)) ggX7_value_X7_holds
set_option maxRecDepth 20000 in
theorem ggX7_value_X7_valueOf : GoodIn wsX7_value wsX7_valueOf := goodIn_r _ [23, 24, 25, 26, 6, 27, 28, 29, 30, 31, 32, 33, 34, 35, 36, 37, 38, 39, 40, 41, 42, 43, 44, 45, 46, 47, 48, 49, 50, 51, 52, 53, 54, 55, 56, 57, 58] (by decide +kernel) (by decide +kernel)
set_option maxRecDepth 20000 in
theorem gX7_value_X7_valueOf : GoodIn wsX7_value (wsV RX7 161 RX7 yX7_valueOf wsX7_valueOf) := goodIn_app (goodIn_of _ (by decide +kernel)) ggX7_value_X7_valueOf
theorem dX7_value_0 : decode cX7_value 0 = .ok (.aload_n 0, 1) := by decide +kernel
theorem dX7_value_1 : decode cX7_value 1 = .ok (.iload_n 1, 1) := by decide +kernel
theorem dX7_value_2 : decode cX7_value 2 = .ok (.invokevirtual 91, 3) := by decide +kernel
theorem dX7_value_5 : decode cX7_value 5 = .ok (.istore_n 3, 1) := by decide +kernel
theorem dX7_value_6 : decode cX7_value 6 = .ok (.aload_n 0, 1) := by decide +kernel
theorem dX7_value_7 : decode cX7_value 7 = .ok (.iload_n 3, 1) := by decide +kernel
theorem dX7_value_8 : decode cX7_value 8 = .ok (.ifCond .ne 7, 3) := by decide +kernel
theorem dX7_value_11 : decode cX7_value 11 = .ok (.iconst 1, 1) := by decide +kernel
theorem dX7_value_12 : decode cX7_value 12 = .ok (.goto 27, 3) := by decide +kernel
theorem dX7_value_15 : decode cX7_value 15 = .ok (.iload_n 2, 1) := by decide +kernel
theorem dX7_value_16 : decode cX7_value 16 = .ok (.iconst 0, 1) := by decide +kernel
theorem dX7_value_17 : decode cX7_value 17 = .ok (.aload_n 0, 1) := by decide +kernel
theorem dX7_value_18 : decode cX7_value 18 = .ok (.getfield 13, 3) := by decide +kernel
theorem dX7_value_21 : decode cX7_value 21 = .ok (.iload_n 1, 1) := by decide +kernel
theorem dX7_value_22 : decode cX7_value 22 = .ok (.iaload, 1) := by decide +kernel
theorem dX7_value_23 : decode cX7_value 23 = .ok (.invokestatic 158, 3) := by decide +kernel
theorem dX7_value_26 : decode cX7_value 26 = .ok (.iconst 1, 1) := by decide +kernel
theorem dX7_value_27 : decode cX7_value 27 = .ok (.isub, 1) := by decide +kernel
theorem dX7_value_28 : decode cX7_value 28 = .ok (.invokestatic 66, 3) := by decide +kernel
theorem dX7_value_31 : decode cX7_value 31 = .ok (.ifCond .ne 7, 3) := by decide +kernel
theorem dX7_value_34 : decode cX7_value 34 = .ok (.iconst 2, 1) := by decide +kernel
theorem dX7_value_35 : decode cX7_value 35 = .ok (.goto 4, 3) := by decide +kernel
theorem dX7_value_38 : decode cX7_value 38 = .ok (.iconst 0, 1) := by decide +kernel
theorem dX7_value_39 : decode cX7_value 39 = .ok (.invokevirtual 74, 3) := by decide +kernel
theorem dX7_value_42 : decode cX7_value 42 = .ok (.ifCond .eq 23, 3) := by decide +kernel
theorem dX7_value_45 : decode cX7_value 45 = .ok (.aload_n 0, 1) := by decide +kernel
theorem dX7_value_46 : decode cX7_value 46 = .ok (.aload_n 0, 1) := by decide +kernel
theorem dX7_value_47 : decode cX7_value 47 = .ok (.getfield 17, 3) := by decide +kernel
theorem dX7_value_50 : decode cX7_value 50 = .ok (.iload_n 1, 1) := by decide +kernel
theorem dX7_value_51 : decode cX7_value 51 = .ok (.iaload, 1) := by decide +kernel
theorem dX7_value_52 : decode cX7_value 52 = .ok (.aload_n 0, 1) := by decide +kernel
theorem dX7_value_53 : decode cX7_value 53 = .ok (.getfield 13, 3) := by decide +kernel
theorem dX7_value_56 : decode cX7_value 56 = .ok (.iload_n 1, 1) := by decide +kernel
theorem dX7_value_57 : decode cX7_value 57 = .ok (.iaload, 1) := by decide +kernel
theorem dX7_value_58 : decode cX7_value 58 = .ok (.iload_n 2, 1) := by decide +kernel
theorem dX7_value_59 : decode cX7_value 59 = .ok (.invokevirtual 161, 3) := by decide +kernel
theorem dX7_value_62 : decode cX7_value 62 = .ok (.goto 4, 3) := by decide +kernel
theorem dX7_value_65 : decode cX7_value 65 = .ok (.iconst 0, 1) := by decide +kernel
theorem dX7_value_66 : decode cX7_value 66 = .ok (.ireturn, 1) := by decide +kernel
set_option maxRecDepth 20000 in
theorem ggX7_weighs_X7_mod : GoodIn wsX7_weighs wsX7_mod := goodIn_r _ [8, 9, 43, 44, 45, 46, 47, 48, 49, 50, 51, 52, 53, 54, 55, 56, 57, 58, 59, 60, 61, 62, 63, 64] (by decide +kernel) (by decide +kernel)
set_option maxRecDepth 20000 in
theorem gX7_weighs_X7_mod : GoodIn wsX7_weighs (wsV RX7 88 RX7 yX7_mod wsX7_mod) := goodIn_app (goodIn_of _ (by decide +kernel)) ggX7_weighs_X7_mod
set_option maxRecDepth 20000 in
theorem ggX7_weighs_X7_valueOf : GoodIn wsX7_weighs wsX7_valueOf := goodIn_r _ [13, 14, 15, 16, 7, 17, 9, 18, 19, 20, 21, 4, 5, 6, 8, 43, 44, 45, 46, 47, 48, 49, 50, 51, 52, 53, 54, 55, 56, 57, 58, 59, 60, 61, 62, 63, 64] (by decide +kernel) (by decide +kernel)
set_option maxRecDepth 20000 in
theorem gX7_weighs_X7_valueOf : GoodIn wsX7_weighs (wsV RX7 161 RX7 yX7_valueOf wsX7_valueOf) := goodIn_app (goodIn_of _ (by decide +kernel)) ggX7_weighs_X7_valueOf
set_option maxRecDepth 20000 in
theorem ggX7_weighs_X7_weight : GoodIn wsX7_weighs wsX7_weight := goodIn_r _ [24] (by decide +kernel) (by decide +kernel)
set_option maxRecDepth 20000 in
theorem gX7_weighs_X7_weight : GoodIn wsX7_weighs (va_wsS RX7 164 yX7_weight wsX7_weight) := goodIn_app (goodIn_of _ (by decide +kernel)) ggX7_weighs_X7_weight
set_option maxRecDepth 20000 in
theorem ggX7_weighs_X7_changedBy : GoodIn wsX7_weighs wsX7_changedBy := goodIn_r _ [28, 1, 3, 29, 30, 31, 7, 32, 2, 9, 33, 34, 35, 36, 37, 38, 14, 15, 16, 17, 18, 19, 20, 21, 4, 5, 6, 8, 39, 40, 41, 42, 43, 44, 45, 46, 47, 48, 49, 50, 51, 52, 53, 54, 55, 56, 57, 58, 59, 60, 61, 62, 63, 64] (by decide +kernel) (by decide +kernel)
set_option maxRecDepth 20000 in
theorem gX7_weighs_X7_changedBy : GoodIn wsX7_weighs (wsV RX7 127 RX7 yX7_changedBy wsX7_changedBy) := goodIn_app (goodIn_of _ (by decide +kernel)) ggX7_weighs_X7_changedBy
theorem dX7_weighs_0 : decode cX7_weighs 0 = .ok (.aload_n 0, 1) := by decide +kernel
theorem dX7_weighs_1 : decode cX7_weighs 1 = .ok (.getfield 13, 3) := by decide +kernel
theorem dX7_weighs_4 : decode cX7_weighs 4 = .ok (.iload_n 1, 1) := by decide +kernel
theorem dX7_weighs_5 : decode cX7_weighs 5 = .ok (.iaload, 1) := by decide +kernel
theorem dX7_weighs_6 : decode cX7_weighs 6 = .ok (.istore 4, 2) := by decide +kernel
theorem dX7_weighs_8 : decode cX7_weighs 8 = .ok (.aload_n 0, 1) := by decide +kernel
theorem dX7_weighs_9 : decode cX7_weighs 9 = .ok (.aload_n 0, 1) := by decide +kernel
theorem dX7_weighs_10 : decode cX7_weighs 10 = .ok (.getfield 20, 3) := by decide +kernel
theorem dX7_weighs_13 : decode cX7_weighs 13 = .ok (.iconst 4, 1) := by decide +kernel
theorem dX7_weighs_14 : decode cX7_weighs 14 = .ok (.iload_n 3, 1) := by decide +kernel
theorem dX7_weighs_15 : decode cX7_weighs 15 = .ok (.imul, 1) := by decide +kernel
theorem dX7_weighs_16 : decode cX7_weighs 16 = .ok (.iaload, 1) := by decide +kernel
theorem dX7_weighs_17 : decode cX7_weighs 17 = .ok (.aload_n 0, 1) := by decide +kernel
theorem dX7_weighs_18 : decode cX7_weighs 18 = .ok (.getfield 20, 3) := by decide +kernel
theorem dX7_weighs_21 : decode cX7_weighs 21 = .ok (.iconst 4, 1) := by decide +kernel
theorem dX7_weighs_22 : decode cX7_weighs 22 = .ok (.iload_n 3, 1) := by decide +kernel
theorem dX7_weighs_23 : decode cX7_weighs 23 = .ok (.imul, 1) := by decide +kernel
theorem dX7_weighs_24 : decode cX7_weighs 24 = .ok (.iconst 3, 1) := by decide +kernel
theorem dX7_weighs_25 : decode cX7_weighs 25 = .ok (.iadd, 1) := by decide +kernel
theorem dX7_weighs_26 : decode cX7_weighs 26 = .ok (.iaload, 1) := by decide +kernel
theorem dX7_weighs_27 : decode cX7_weighs 27 = .ok (.imul, 1) := by decide +kernel
theorem dX7_weighs_28 : decode cX7_weighs 28 = .ok (.aload_n 0, 1) := by decide +kernel
theorem dX7_weighs_29 : decode cX7_weighs 29 = .ok (.getfield 20, 3) := by decide +kernel
theorem dX7_weighs_32 : decode cX7_weighs 32 = .ok (.iconst 4, 1) := by decide +kernel
theorem dX7_weighs_33 : decode cX7_weighs 33 = .ok (.iload_n 3, 1) := by decide +kernel
theorem dX7_weighs_34 : decode cX7_weighs 34 = .ok (.imul, 1) := by decide +kernel
theorem dX7_weighs_35 : decode cX7_weighs 35 = .ok (.iconst 1, 1) := by decide +kernel
theorem dX7_weighs_36 : decode cX7_weighs 36 = .ok (.iadd, 1) := by decide +kernel
theorem dX7_weighs_37 : decode cX7_weighs 37 = .ok (.iaload, 1) := by decide +kernel
theorem dX7_weighs_38 : decode cX7_weighs 38 = .ok (.aload_n 0, 1) := by decide +kernel
theorem dX7_weighs_39 : decode cX7_weighs 39 = .ok (.getfield 20, 3) := by decide +kernel
theorem dX7_weighs_42 : decode cX7_weighs 42 = .ok (.iconst 4, 1) := by decide +kernel
theorem dX7_weighs_43 : decode cX7_weighs 43 = .ok (.iload_n 3, 1) := by decide +kernel
theorem dX7_weighs_44 : decode cX7_weighs 44 = .ok (.imul, 1) := by decide +kernel
theorem dX7_weighs_45 : decode cX7_weighs 45 = .ok (.iconst 2, 1) := by decide +kernel
theorem dX7_weighs_46 : decode cX7_weighs 46 = .ok (.iadd, 1) := by decide +kernel
theorem dX7_weighs_47 : decode cX7_weighs 47 = .ok (.iaload, 1) := by decide +kernel
theorem dX7_weighs_48 : decode cX7_weighs 48 = .ok (.imul, 1) := by decide +kernel
theorem dX7_weighs_49 : decode cX7_weighs 49 = .ok (.isub, 1) := by decide +kernel
theorem dX7_weighs_50 : decode cX7_weighs 50 = .ok (.invokevirtual 88, 3) := by decide +kernel
theorem dX7_weighs_53 : decode cX7_weighs 53 = .ok (.istore 5, 2) := by decide +kernel
theorem dX7_weighs_55 : decode cX7_weighs 55 = .ok (.aload_n 0, 1) := by decide +kernel
theorem dX7_weighs_56 : decode cX7_weighs 56 = .ok (.aload_n 0, 1) := by decide +kernel
theorem dX7_weighs_57 : decode cX7_weighs 57 = .ok (.getfield 17, 3) := by decide +kernel
theorem dX7_weighs_60 : decode cX7_weighs 60 = .ok (.iload_n 1, 1) := by decide +kernel
theorem dX7_weighs_61 : decode cX7_weighs 61 = .ok (.iaload, 1) := by decide +kernel
theorem dX7_weighs_62 : decode cX7_weighs 62 = .ok (.iload 4, 2) := by decide +kernel
theorem dX7_weighs_64 : decode cX7_weighs 64 = .ok (.iload_n 2, 1) := by decide +kernel
theorem dX7_weighs_65 : decode cX7_weighs 65 = .ok (.invokevirtual 161, 3) := by decide +kernel
theorem dX7_weighs_68 : decode cX7_weighs 68 = .ok (.istore 6, 2) := by decide +kernel
theorem dX7_weighs_70 : decode cX7_weighs 70 = .ok (.iconst 0, 1) := by decide +kernel
theorem dX7_weighs_71 : decode cX7_weighs 71 = .ok (.istore 7, 2) := by decide +kernel
theorem dX7_weighs_73 : decode cX7_weighs 73 = .ok (.iload 7, 2) := by decide +kernel
theorem dX7_weighs_75 : decode cX7_weighs 75 = .ok (.iload 4, 2) := by decide +kernel
theorem dX7_weighs_77 : decode cX7_weighs 77 = .ok (.iload_n 2, 1) := by decide +kernel
theorem dX7_weighs_78 : decode cX7_weighs 78 = .ok (.invokestatic 164, 3) := by decide +kernel
theorem dX7_weighs_81 : decode cX7_weighs 81 = .ok (.if_icmp .ge 20, 3) := by decide +kernel
theorem dX7_weighs_84 : decode cX7_weighs 84 = .ok (.aload_n 0, 1) := by decide +kernel
theorem dX7_weighs_85 : decode cX7_weighs 85 = .ok (.iload 6, 2) := by decide +kernel
theorem dX7_weighs_87 : decode cX7_weighs 87 = .ok (.iload 5, 2) := by decide +kernel
theorem dX7_weighs_89 : decode cX7_weighs 89 = .ok (.imul, 1) := by decide +kernel
theorem dX7_weighs_90 : decode cX7_weighs 90 = .ok (.invokevirtual 88, 3) := by decide +kernel
theorem dX7_weighs_93 : decode cX7_weighs 93 = .ok (.istore 6, 2) := by decide +kernel
theorem dX7_weighs_95 : decode cX7_weighs 95 = .ok (.iinc 7 1, 3) := by decide +kernel
theorem dX7_weighs_98 : decode cX7_weighs 98 = .ok (.goto (-25), 3) := by decide +kernel
theorem dX7_weighs_101 : decode cX7_weighs 101 = .ok (.aload_n 0, 1) := by decide +kernel
theorem dX7_weighs_102 : decode cX7_weighs 102 = .ok (.aload_n 0, 1) := by decide +kernel
theorem dX7_weighs_103 : decode cX7_weighs 103 = .ok (.iload_n 1, 1) := by decide +kernel
theorem dX7_weighs_104 : decode cX7_weighs 104 = .ok (.iload_n 3, 1) := by decide +kernel
theorem dX7_weighs_105 : decode cX7_weighs 105 = .ok (.invokevirtual 127, 3) := by decide +kernel
theorem dX7_weighs_108 : decode cX7_weighs 108 = .ok (.iload 4, 2) := by decide +kernel
theorem dX7_weighs_110 : decode cX7_weighs 110 = .ok (.iload_n 2, 1) := by decide +kernel
theorem dX7_weighs_111 : decode cX7_weighs 111 = .ok (.invokevirtual 161, 3) := by decide +kernel
theorem dX7_weighs_114 : decode cX7_weighs 114 = .ok (.iload 6, 2) := by decide +kernel
theorem dX7_weighs_116 : decode cX7_weighs 116 = .ok (.if_icmp .ne 7, 3) := by decide +kernel
theorem dX7_weighs_119 : decode cX7_weighs 119 = .ok (.iconst 1, 1) := by decide +kernel
theorem dX7_weighs_120 : decode cX7_weighs 120 = .ok (.goto 4, 3) := by decide +kernel
theorem dX7_weighs_123 : decode cX7_weighs 123 = .ok (.iconst 0, 1) := by decide +kernel
theorem dX7_weighs_124 : decode cX7_weighs 124 = .ok (.ireturn, 1) := by decide +kernel
set_option maxRecDepth 20000 in
theorem ggX7_weighAll_X7_values : GoodIn wsX7_weighAll wsX7_values := goodIn_r _ [7] (by decide +kernel) (by decide +kernel)
set_option maxRecDepth 20000 in
theorem gX7_weighAll_X7_values : GoodIn wsX7_weighAll (va_wsS RX7 158 yX7_values wsX7_values) := goodIn_app (goodIn_of _ (by decide +kernel)) ggX7_weighAll_X7_values
set_option maxRecDepth 20000 in
theorem ggX7_weighAll_X7_weighs : GoodIn wsX7_weighAll wsX7_weighs := goodIn_r _ [11, 2, 12, 13, 14, 15, 16, 6, 17, 18, 19, 20, 21, 22, 23, 24, 25, 26, 27, 28, 29, 30, 31, 32, 33, 34, 35, 36, 37, 38, 39, 40, 41, 42, 43, 44, 45, 46, 47, 48, 49, 50, 51, 52, 53, 54, 55, 56, 57, 58, 59, 60, 61, 62, 63, 64, 65, 66, 67, 68, 69, 70, 71, 72, 73] (by decide +kernel) (by decide +kernel)
set_option maxRecDepth 20000 in
theorem gX7_weighAll_X7_weighs : GoodIn wsX7_weighAll (wsV RX7 167 RX7 yX7_weighs wsX7_weighs) := goodIn_app (goodIn_of _ (by decide +kernel)) ggX7_weighAll_X7_weighs
theorem dX7_weighAll_0 : decode cX7_weighAll 0 = .ok (.iconst 1, 1) := by decide +kernel
theorem dX7_weighAll_1 : decode cX7_weighAll 1 = .ok (.istore_n 1, 1) := by decide +kernel
theorem dX7_weighAll_2 : decode cX7_weighAll 2 = .ok (.iconst 0, 1) := by decide +kernel
theorem dX7_weighAll_3 : decode cX7_weighAll 3 = .ok (.istore_n 2, 1) := by decide +kernel
theorem dX7_weighAll_4 : decode cX7_weighAll 4 = .ok (.iload_n 2, 1) := by decide +kernel
theorem dX7_weighAll_5 : decode cX7_weighAll 5 = .ok (.aload_n 0, 1) := by decide +kernel
theorem dX7_weighAll_6 : decode cX7_weighAll 6 = .ok (.getfield 63, 3) := by decide +kernel
theorem dX7_weighAll_9 : decode cX7_weighAll 9 = .ok (.if_icmp .ge 65, 3) := by decide +kernel
theorem dX7_weighAll_12 : decode cX7_weighAll 12 = .ok (.iconst 0, 1) := by decide +kernel
theorem dX7_weighAll_13 : decode cX7_weighAll 13 = .ok (.istore_n 3, 1) := by decide +kernel
theorem dX7_weighAll_14 : decode cX7_weighAll 14 = .ok (.iload_n 3, 1) := by decide +kernel
theorem dX7_weighAll_15 : decode cX7_weighAll 15 = .ok (.aload_n 0, 1) := by decide +kernel
theorem dX7_weighAll_16 : decode cX7_weighAll 16 = .ok (.getfield 13, 3) := by decide +kernel
theorem dX7_weighAll_19 : decode cX7_weighAll 19 = .ok (.iload_n 2, 1) := by decide +kernel
theorem dX7_weighAll_20 : decode cX7_weighAll 20 = .ok (.iaload, 1) := by decide +kernel
theorem dX7_weighAll_21 : decode cX7_weighAll 21 = .ok (.invokestatic 158, 3) := by decide +kernel
theorem dX7_weighAll_24 : decode cX7_weighAll 24 = .ok (.aload_n 0, 1) := by decide +kernel
theorem dX7_weighAll_25 : decode cX7_weighAll 25 = .ok (.getfield 78, 3) := by decide +kernel
theorem dX7_weighAll_28 : decode cX7_weighAll 28 = .ok (.imul, 1) := by decide +kernel
theorem dX7_weighAll_29 : decode cX7_weighAll 29 = .ok (.if_icmp .ge 39, 3) := by decide +kernel
theorem dX7_weighAll_32 : decode cX7_weighAll 32 = .ok (.iload_n 1, 1) := by decide +kernel
theorem dX7_weighAll_33 : decode cX7_weighAll 33 = .ok (.ifCond .eq 27, 3) := by decide +kernel
theorem dX7_weighAll_36 : decode cX7_weighAll 36 = .ok (.aload_n 0, 1) := by decide +kernel
theorem dX7_weighAll_37 : decode cX7_weighAll 37 = .ok (.iload_n 2, 1) := by decide +kernel
theorem dX7_weighAll_38 : decode cX7_weighAll 38 = .ok (.iload_n 3, 1) := by decide +kernel
theorem dX7_weighAll_39 : decode cX7_weighAll 39 = .ok (.aload_n 0, 1) := by decide +kernel
theorem dX7_weighAll_40 : decode cX7_weighAll 40 = .ok (.getfield 78, 3) := by decide +kernel
theorem dX7_weighAll_43 : decode cX7_weighAll 43 = .ok (.idiv, 1) := by decide +kernel
theorem dX7_weighAll_44 : decode cX7_weighAll 44 = .ok (.iload_n 3, 1) := by decide +kernel
theorem dX7_weighAll_45 : decode cX7_weighAll 45 = .ok (.aload_n 0, 1) := by decide +kernel
theorem dX7_weighAll_46 : decode cX7_weighAll 46 = .ok (.getfield 78, 3) := by decide +kernel
theorem dX7_weighAll_49 : decode cX7_weighAll 49 = .ok (.irem, 1) := by decide +kernel
theorem dX7_weighAll_50 : decode cX7_weighAll 50 = .ok (.invokevirtual 167, 3) := by decide +kernel
theorem dX7_weighAll_53 : decode cX7_weighAll 53 = .ok (.ifCond .eq 7, 3) := by decide +kernel
theorem dX7_weighAll_56 : decode cX7_weighAll 56 = .ok (.iconst 1, 1) := by decide +kernel
theorem dX7_weighAll_57 : decode cX7_weighAll 57 = .ok (.goto 4, 3) := by decide +kernel
theorem dX7_weighAll_60 : decode cX7_weighAll 60 = .ok (.iconst 0, 1) := by decide +kernel
theorem dX7_weighAll_61 : decode cX7_weighAll 61 = .ok (.istore_n 1, 1) := by decide +kernel
theorem dX7_weighAll_62 : decode cX7_weighAll 62 = .ok (.iinc 3 1, 3) := by decide +kernel
theorem dX7_weighAll_65 : decode cX7_weighAll 65 = .ok (.goto (-51), 3) := by decide +kernel
theorem dX7_weighAll_68 : decode cX7_weighAll 68 = .ok (.iinc 2 1, 3) := by decide +kernel
theorem dX7_weighAll_71 : decode cX7_weighAll 71 = .ok (.goto (-67), 3) := by decide +kernel
theorem dX7_weighAll_74 : decode cX7_weighAll 74 = .ok (.iload_n 1, 1) := by decide +kernel
theorem dX7_weighAll_75 : decode cX7_weighAll 75 = .ok (.ireturn, 1) := by decide +kernel
set_option maxRecDepth 20000 in
theorem ggX7_weighs__X7_weighAll : GoodIn wsX7_weighs_ wsX7_weighAll := goodIn_r _ [6, 7, 8, 9, 10, 11, 5, 12, 13, 14, 15, 16, 17, 18, 19, 20, 21, 22, 23, 24, 25, 26, 27, 28, 29, 30, 31, 32, 33, 34, 35, 36, 37, 38, 39, 40, 41, 42, 43, 44, 45, 46, 47, 48, 49, 50, 51, 52, 53, 54, 55, 56, 57, 58, 59, 60, 61, 62, 63, 64, 65, 66, 67, 68, 69, 70, 71, 72, 73, 74, 75, 76, 77, 78] (by decide +kernel) (by decide +kernel)
set_option maxRecDepth 20000 in
theorem gX7_weighs__X7_weighAll : GoodIn wsX7_weighs_ (wsV RX7 170 RX7 yX7_weighAll wsX7_weighAll) := goodIn_app (goodIn_of _ (by decide +kernel)) ggX7_weighs__X7_weighAll
theorem dX7_weighs__0 : decode cX7_weighs_ 0 = .ok (.aload_n 0, 1) := by decide +kernel
theorem dX7_weighs__1 : decode cX7_weighs_ 1 = .ok (.iconst 0, 1) := by decide +kernel
theorem dX7_weighs__2 : decode cX7_weighs_ 2 = .ok (.putfield 60, 3) := by decide +kernel
theorem dX7_weighs__5 : decode cX7_weighs_ 5 = .ok (.aload_n 0, 1) := by decide +kernel
theorem dX7_weighs__6 : decode cX7_weighs_ 6 = .ok (.invokevirtual 170, 3) := by decide +kernel
theorem dX7_weighs__9 : decode cX7_weighs_ 9 = .ok (.ireturn, 1) := by decide +kernel
set_option maxRecDepth 20000 in
theorem ggX7_goesOn_X7_power : GoodIn wsX7_goesOn wsX7_power := goodIn_r _ [11, 12, 36, 37, 38, 39, 40, 41, 42, 43, 44, 45, 46, 47, 48, 49, 50, 51, 52, 53, 54, 55, 56, 57] (by decide +kernel) (by decide +kernel)
set_option maxRecDepth 20000 in
theorem gX7_goesOn_X7_power : GoodIn wsX7_goesOn (wsV RX7 70 RX7 yX7_power wsX7_power) := goodIn_app (goodIn_of _ (by decide +kernel)) ggX7_goesOn_X7_power
set_option maxRecDepth 20000 in
theorem ggX7_goesOn_X7_generatorCode : GoodIn wsX7_goesOn wsX7_generatorCode := goodIn_r _ [16, 17, 12, 36, 37, 38, 39, 40, 41, 42, 43, 44, 45, 46, 47, 48, 49, 50, 51, 52, 53, 54, 55, 56, 57] (by decide +kernel) (by decide +kernel)
set_option maxRecDepth 20000 in
theorem gX7_goesOn_X7_generatorCode : GoodIn wsX7_goesOn (wsV RX7 117 RX7 yX7_generatorCode wsX7_generatorCode) := goodIn_app (goodIn_of _ (by decide +kernel)) ggX7_goesOn_X7_generatorCode
set_option maxRecDepth 20000 in
theorem ggX7_goesOn_X7_learns : GoodIn wsX7_goesOn wsX7_learns := goodIn_r _ [21, 22, 23, 24, 25, 26, 10, 27, 12, 7, 8, 9, 11, 28, 29, 30, 31, 36, 37, 38, 39, 40, 41, 42, 43, 44, 45, 46, 47, 48, 49, 50, 51, 52, 53, 54, 55, 56, 57] (by decide +kernel) (by decide +kernel)
set_option maxRecDepth 20000 in
theorem gX7_goesOn_X7_learns : GoodIn wsX7_goesOn (wsV RX7 120 RX7 yX7_learns wsX7_learns) := goodIn_app (goodIn_of _ (by decide +kernel)) ggX7_goesOn_X7_learns
set_option maxRecDepth 20000 in
theorem ggX7_goesOn_X7_made : GoodIn wsX7_goesOn wsX7_made := goodIn_r _ [35, 23, 12, 24, 25, 26, 10, 27, 7, 8, 9, 11, 28, 29, 30, 31, 36, 37, 38, 39, 40, 41, 42, 43, 44, 45, 46, 47, 48, 49, 50, 51, 52, 53, 54, 55, 56, 57] (by decide +kernel) (by decide +kernel)
set_option maxRecDepth 20000 in
theorem gX7_goesOn_X7_made : GoodIn wsX7_goesOn (wsV RX7 124 RX7 yX7_made wsX7_made) := goodIn_app (goodIn_of _ (by decide +kernel)) ggX7_goesOn_X7_made
theorem dX7_goesOn_0 : decode cX7_goesOn 0 = .ok (.iconst 0, 1) := by decide +kernel
theorem dX7_goesOn_1 : decode cX7_goesOn 1 = .ok (.istore_n 3, 1) := by decide +kernel
theorem dX7_goesOn_2 : decode cX7_goesOn 2 = .ok (.iload_n 3, 1) := by decide +kernel
theorem dX7_goesOn_3 : decode cX7_goesOn 3 = .ok (.aload_n 0, 1) := by decide +kernel
theorem dX7_goesOn_4 : decode cX7_goesOn 4 = .ok (.iload_n 2, 1) := by decide +kernel
theorem dX7_goesOn_5 : decode cX7_goesOn 5 = .ok (.iconst 1, 1) := by decide +kernel
theorem dX7_goesOn_6 : decode cX7_goesOn 6 = .ok (.iadd, 1) := by decide +kernel
theorem dX7_goesOn_7 : decode cX7_goesOn 7 = .ok (.invokevirtual 70, 3) := by decide +kernel
theorem dX7_goesOn_10 : decode cX7_goesOn 10 = .ok (.if_icmp .ge 16, 3) := by decide +kernel
theorem dX7_goesOn_13 : decode cX7_goesOn 13 = .ok (.aload_n 0, 1) := by decide +kernel
theorem dX7_goesOn_14 : decode cX7_goesOn 14 = .ok (.getfield 54, 3) := by decide +kernel
theorem dX7_goesOn_17 : decode cX7_goesOn 17 = .ok (.iload_n 3, 1) := by decide +kernel
theorem dX7_goesOn_18 : decode cX7_goesOn 18 = .ok (.iconst (-1), 1) := by decide +kernel
theorem dX7_goesOn_19 : decode cX7_goesOn 19 = .ok (.iastore, 1) := by decide +kernel
theorem dX7_goesOn_20 : decode cX7_goesOn 20 = .ok (.iinc 3 1, 3) := by decide +kernel
theorem dX7_goesOn_23 : decode cX7_goesOn 23 = .ok (.goto (-21), 3) := by decide +kernel
theorem dX7_goesOn_26 : decode cX7_goesOn 26 = .ok (.aload_n 0, 1) := by decide +kernel
theorem dX7_goesOn_27 : decode cX7_goesOn 27 = .ok (.getfield 54, 3) := by decide +kernel
theorem dX7_goesOn_30 : decode cX7_goesOn 30 = .ok (.iload_n 1, 1) := by decide +kernel
theorem dX7_goesOn_31 : decode cX7_goesOn 31 = .ok (.iconst 0, 1) := by decide +kernel
theorem dX7_goesOn_32 : decode cX7_goesOn 32 = .ok (.iastore, 1) := by decide +kernel
theorem dX7_goesOn_33 : decode cX7_goesOn 33 = .ok (.aload_n 0, 1) := by decide +kernel
theorem dX7_goesOn_34 : decode cX7_goesOn 34 = .ok (.getfield 57, 3) := by decide +kernel
theorem dX7_goesOn_37 : decode cX7_goesOn 37 = .ok (.iconst 0, 1) := by decide +kernel
theorem dX7_goesOn_38 : decode cX7_goesOn 38 = .ok (.iload_n 1, 1) := by decide +kernel
theorem dX7_goesOn_39 : decode cX7_goesOn 39 = .ok (.iastore, 1) := by decide +kernel
theorem dX7_goesOn_40 : decode cX7_goesOn 40 = .ok (.aload_n 0, 1) := by decide +kernel
theorem dX7_goesOn_41 : decode cX7_goesOn 41 = .ok (.iconst 1, 1) := by decide +kernel
theorem dX7_goesOn_42 : decode cX7_goesOn 42 = .ok (.putfield 174, 3) := by decide +kernel
theorem dX7_goesOn_45 : decode cX7_goesOn 45 = .ok (.iconst 0, 1) := by decide +kernel
theorem dX7_goesOn_46 : decode cX7_goesOn 46 = .ok (.istore_n 3, 1) := by decide +kernel
theorem dX7_goesOn_47 : decode cX7_goesOn 47 = .ok (.iload_n 3, 1) := by decide +kernel
theorem dX7_goesOn_48 : decode cX7_goesOn 48 = .ok (.aload_n 0, 1) := by decide +kernel
theorem dX7_goesOn_49 : decode cX7_goesOn 49 = .ok (.getfield 174, 3) := by decide +kernel
theorem dX7_goesOn_52 : decode cX7_goesOn 52 = .ok (.if_icmp .ge 125, 3) := by decide +kernel
theorem dX7_goesOn_55 : decode cX7_goesOn 55 = .ok (.iconst 0, 1) := by decide +kernel
theorem dX7_goesOn_56 : decode cX7_goesOn 56 = .ok (.istore 4, 2) := by decide +kernel
theorem dX7_goesOn_58 : decode cX7_goesOn 58 = .ok (.iload 4, 2) := by decide +kernel
theorem dX7_goesOn_60 : decode cX7_goesOn 60 = .ok (.aload_n 0, 1) := by decide +kernel
theorem dX7_goesOn_61 : decode cX7_goesOn 61 = .ok (.getfield 78, 3) := by decide +kernel
theorem dX7_goesOn_64 : decode cX7_goesOn 64 = .ok (.if_icmp .ge 107, 3) := by decide +kernel
theorem dX7_goesOn_67 : decode cX7_goesOn 67 = .ok (.aload_n 0, 1) := by decide +kernel
theorem dX7_goesOn_68 : decode cX7_goesOn 68 = .ok (.aload_n 0, 1) := by decide +kernel
theorem dX7_goesOn_69 : decode cX7_goesOn 69 = .ok (.iload 4, 2) := by decide +kernel
theorem dX7_goesOn_71 : decode cX7_goesOn 71 = .ok (.invokevirtual 117, 3) := by decide +kernel
theorem dX7_goesOn_74 : decode cX7_goesOn 74 = .ok (.iload_n 2, 1) := by decide +kernel
theorem dX7_goesOn_75 : decode cX7_goesOn 75 = .ok (.invokevirtual 120, 3) := by decide +kernel
theorem dX7_goesOn_78 : decode cX7_goesOn 78 = .ok (.aload_n 0, 1) := by decide +kernel
theorem dX7_goesOn_79 : decode cX7_goesOn 79 = .ok (.aload_n 0, 1) := by decide +kernel
theorem dX7_goesOn_80 : decode cX7_goesOn 80 = .ok (.getfield 57, 3) := by decide +kernel
theorem dX7_goesOn_83 : decode cX7_goesOn 83 = .ok (.iload_n 3, 1) := by decide +kernel
theorem dX7_goesOn_84 : decode cX7_goesOn 84 = .ok (.iaload, 1) := by decide +kernel
theorem dX7_goesOn_85 : decode cX7_goesOn 85 = .ok (.iload_n 2, 1) := by decide +kernel
theorem dX7_goesOn_86 : decode cX7_goesOn 86 = .ok (.invokevirtual 124, 3) := by decide +kernel
theorem dX7_goesOn_89 : decode cX7_goesOn 89 = .ok (.istore 5, 2) := by decide +kernel
theorem dX7_goesOn_91 : decode cX7_goesOn 91 = .ok (.aload_n 0, 1) := by decide +kernel
theorem dX7_goesOn_92 : decode cX7_goesOn 92 = .ok (.getfield 54, 3) := by decide +kernel
theorem dX7_goesOn_95 : decode cX7_goesOn 95 = .ok (.iload 5, 2) := by decide +kernel
theorem dX7_goesOn_97 : decode cX7_goesOn 97 = .ok (.iaload, 1) := by decide +kernel
theorem dX7_goesOn_98 : decode cX7_goesOn 98 = .ok (.iconst (-1), 1) := by decide +kernel
theorem dX7_goesOn_99 : decode cX7_goesOn 99 = .ok (.if_icmp .ne 66, 3) := by decide +kernel
theorem dX7_goesOn_102 : decode cX7_goesOn 102 = .ok (.aload_n 0, 1) := by decide +kernel
theorem dX7_goesOn_103 : decode cX7_goesOn 103 = .ok (.getfield 54, 3) := by decide +kernel
theorem dX7_goesOn_106 : decode cX7_goesOn 106 = .ok (.iload 5, 2) := by decide +kernel
theorem dX7_goesOn_108 : decode cX7_goesOn 108 = .ok (.aload_n 0, 1) := by decide +kernel
theorem dX7_goesOn_109 : decode cX7_goesOn 109 = .ok (.getfield 54, 3) := by decide +kernel
theorem dX7_goesOn_112 : decode cX7_goesOn 112 = .ok (.aload_n 0, 1) := by decide +kernel
theorem dX7_goesOn_113 : decode cX7_goesOn 113 = .ok (.getfield 57, 3) := by decide +kernel
theorem dX7_goesOn_116 : decode cX7_goesOn 116 = .ok (.iload_n 3, 1) := by decide +kernel
theorem dX7_goesOn_117 : decode cX7_goesOn 117 = .ok (.iaload, 1) := by decide +kernel
theorem dX7_goesOn_118 : decode cX7_goesOn 118 = .ok (.iaload, 1) := by decide +kernel
theorem dX7_goesOn_119 : decode cX7_goesOn 119 = .ok (.iconst 1, 1) := by decide +kernel
theorem dX7_goesOn_120 : decode cX7_goesOn 120 = .ok (.iadd, 1) := by decide +kernel
theorem dX7_goesOn_121 : decode cX7_goesOn 121 = .ok (.iastore, 1) := by decide +kernel
theorem dX7_goesOn_122 : decode cX7_goesOn 122 = .ok (.aload_n 0, 1) := by decide +kernel
theorem dX7_goesOn_123 : decode cX7_goesOn 123 = .ok (.getfield 48, 3) := by decide +kernel
theorem dX7_goesOn_126 : decode cX7_goesOn 126 = .ok (.iload 5, 2) := by decide +kernel
theorem dX7_goesOn_128 : decode cX7_goesOn 128 = .ok (.iload 4, 2) := by decide +kernel
theorem dX7_goesOn_130 : decode cX7_goesOn 130 = .ok (.iastore, 1) := by decide +kernel
theorem dX7_goesOn_131 : decode cX7_goesOn 131 = .ok (.aload_n 0, 1) := by decide +kernel
theorem dX7_goesOn_132 : decode cX7_goesOn 132 = .ok (.getfield 51, 3) := by decide +kernel
theorem dX7_goesOn_135 : decode cX7_goesOn 135 = .ok (.iload 5, 2) := by decide +kernel
theorem dX7_goesOn_137 : decode cX7_goesOn 137 = .ok (.aload_n 0, 1) := by decide +kernel
theorem dX7_goesOn_138 : decode cX7_goesOn 138 = .ok (.getfield 57, 3) := by decide +kernel
theorem dX7_goesOn_141 : decode cX7_goesOn 141 = .ok (.iload_n 3, 1) := by decide +kernel
theorem dX7_goesOn_142 : decode cX7_goesOn 142 = .ok (.iaload, 1) := by decide +kernel
theorem dX7_goesOn_143 : decode cX7_goesOn 143 = .ok (.iastore, 1) := by decide +kernel
theorem dX7_goesOn_144 : decode cX7_goesOn 144 = .ok (.aload_n 0, 1) := by decide +kernel
theorem dX7_goesOn_145 : decode cX7_goesOn 145 = .ok (.getfield 57, 3) := by decide +kernel
theorem dX7_goesOn_148 : decode cX7_goesOn 148 = .ok (.aload_n 0, 1) := by decide +kernel
theorem dX7_goesOn_149 : decode cX7_goesOn 149 = .ok (.getfield 174, 3) := by decide +kernel
theorem dX7_goesOn_152 : decode cX7_goesOn 152 = .ok (.iload 5, 2) := by decide +kernel
theorem dX7_goesOn_154 : decode cX7_goesOn 154 = .ok (.iastore, 1) := by decide +kernel
theorem dX7_goesOn_155 : decode cX7_goesOn 155 = .ok (.aload_n 0, 1) := by decide +kernel
theorem dX7_goesOn_156 : decode cX7_goesOn 156 = .ok (.dup, 1) := by decide +kernel
theorem dX7_goesOn_157 : decode cX7_goesOn 157 = .ok (.getfield 174, 3) := by decide +kernel
theorem dX7_goesOn_160 : decode cX7_goesOn 160 = .ok (.iconst 1, 1) := by decide +kernel
theorem dX7_goesOn_161 : decode cX7_goesOn 161 = .ok (.iadd, 1) := by decide +kernel
theorem dX7_goesOn_162 : decode cX7_goesOn 162 = .ok (.putfield 174, 3) := by decide +kernel
theorem dX7_goesOn_165 : decode cX7_goesOn 165 = .ok (.iinc 4 1, 3) := by decide +kernel
theorem dX7_goesOn_168 : decode cX7_goesOn 168 = .ok (.goto (-110), 3) := by decide +kernel
theorem dX7_goesOn_171 : decode cX7_goesOn 171 = .ok (.iinc 3 1, 3) := by decide +kernel
theorem dX7_goesOn_174 : decode cX7_goesOn 174 = .ok (.goto (-127), 3) := by decide +kernel
theorem dX7_goesOn_177 : decode cX7_goesOn 177 = .ok (.return_, 1) := by decide +kernel
set_option maxRecDepth 20000 in
theorem ggX7_leastCode_X7_goesOn : GoodIn wsX7_leastCode wsX7_goesOn := goodIn_r _ [9, 10, 4, 3, 11, 12, 13, 14, 15, 16, 8, 17, 18, 19, 20, 21, 22, 23, 24, 25, 26, 27, 28, 29, 30, 31, 32, 33, 34, 35, 36, 37, 38, 39, 40, 41, 42, 43, 44, 45, 46, 47, 48, 49, 50, 51, 52, 53, 54, 55, 56, 57, 58, 59, 60, 61, 62, 63] (by decide +kernel) (by decide +kernel)
set_option maxRecDepth 20000 in
theorem gX7_leastCode_X7_goesOn : GoodIn wsX7_leastCode (wsV RX7 177 RX7 yX7_goesOn wsX7_goesOn) := goodIn_app (goodIn_of _ (by decide +kernel)) ggX7_leastCode_X7_goesOn
theorem dX7_leastCode_0 : decode cX7_leastCode 0 = .ok (.aload_n 0, 1) := by decide +kernel
theorem dX7_leastCode_1 : decode cX7_leastCode 1 = .ok (.aload_n 0, 1) := by decide +kernel
theorem dX7_leastCode_2 : decode cX7_leastCode 2 = .ok (.getfield 17, 3) := by decide +kernel
theorem dX7_leastCode_5 : decode cX7_leastCode 5 = .ok (.iload_n 1, 1) := by decide +kernel
theorem dX7_leastCode_6 : decode cX7_leastCode 6 = .ok (.iaload, 1) := by decide +kernel
theorem dX7_leastCode_7 : decode cX7_leastCode 7 = .ok (.aload_n 0, 1) := by decide +kernel
theorem dX7_leastCode_8 : decode cX7_leastCode 8 = .ok (.getfield 13, 3) := by decide +kernel
theorem dX7_leastCode_11 : decode cX7_leastCode 11 = .ok (.iload_n 1, 1) := by decide +kernel
theorem dX7_leastCode_12 : decode cX7_leastCode 12 = .ok (.iaload, 1) := by decide +kernel
theorem dX7_leastCode_13 : decode cX7_leastCode 13 = .ok (.invokevirtual 177, 3) := by decide +kernel
theorem dX7_leastCode_16 : decode cX7_leastCode 16 = .ok (.aload_n 0, 1) := by decide +kernel
theorem dX7_leastCode_17 : decode cX7_leastCode 17 = .ok (.getfield 17, 3) := by decide +kernel
theorem dX7_leastCode_20 : decode cX7_leastCode 20 = .ok (.iload_n 1, 1) := by decide +kernel
theorem dX7_leastCode_21 : decode cX7_leastCode 21 = .ok (.iaload, 1) := by decide +kernel
theorem dX7_leastCode_22 : decode cX7_leastCode 22 = .ok (.istore_n 2, 1) := by decide +kernel
theorem dX7_leastCode_23 : decode cX7_leastCode 23 = .ok (.iconst 0, 1) := by decide +kernel
theorem dX7_leastCode_24 : decode cX7_leastCode 24 = .ok (.istore_n 3, 1) := by decide +kernel
theorem dX7_leastCode_25 : decode cX7_leastCode 25 = .ok (.iload_n 3, 1) := by decide +kernel
theorem dX7_leastCode_26 : decode cX7_leastCode 26 = .ok (.aload_n 0, 1) := by decide +kernel
theorem dX7_leastCode_27 : decode cX7_leastCode 27 = .ok (.getfield 174, 3) := by decide +kernel
theorem dX7_leastCode_30 : decode cX7_leastCode 30 = .ok (.if_icmp .ge 30, 3) := by decide +kernel
theorem dX7_leastCode_33 : decode cX7_leastCode 33 = .ok (.aload_n 0, 1) := by decide +kernel
theorem dX7_leastCode_34 : decode cX7_leastCode 34 = .ok (.getfield 57, 3) := by decide +kernel
theorem dX7_leastCode_37 : decode cX7_leastCode 37 = .ok (.iload_n 3, 1) := by decide +kernel
theorem dX7_leastCode_38 : decode cX7_leastCode 38 = .ok (.iaload, 1) := by decide +kernel
theorem dX7_leastCode_39 : decode cX7_leastCode 39 = .ok (.iload_n 2, 1) := by decide +kernel
theorem dX7_leastCode_40 : decode cX7_leastCode 40 = .ok (.if_icmp .ge 12, 3) := by decide +kernel
theorem dX7_leastCode_43 : decode cX7_leastCode 43 = .ok (.aload_n 0, 1) := by decide +kernel
theorem dX7_leastCode_44 : decode cX7_leastCode 44 = .ok (.getfield 57, 3) := by decide +kernel
theorem dX7_leastCode_47 : decode cX7_leastCode 47 = .ok (.iload_n 3, 1) := by decide +kernel
theorem dX7_leastCode_48 : decode cX7_leastCode 48 = .ok (.iaload, 1) := by decide +kernel
theorem dX7_leastCode_49 : decode cX7_leastCode 49 = .ok (.goto 4, 3) := by decide +kernel
theorem dX7_leastCode_52 : decode cX7_leastCode 52 = .ok (.iload_n 2, 1) := by decide +kernel
theorem dX7_leastCode_53 : decode cX7_leastCode 53 = .ok (.istore_n 2, 1) := by decide +kernel
theorem dX7_leastCode_54 : decode cX7_leastCode 54 = .ok (.iinc 3 1, 3) := by decide +kernel
theorem dX7_leastCode_57 : decode cX7_leastCode 57 = .ok (.goto (-32), 3) := by decide +kernel
theorem dX7_leastCode_60 : decode cX7_leastCode 60 = .ok (.iload_n 2, 1) := by decide +kernel
theorem dX7_leastCode_61 : decode cX7_leastCode 61 = .ok (.ireturn, 1) := by decide +kernel
set_option maxRecDepth 20000 in
theorem ggX7_inOrbit_X7_goesOn : GoodIn wsX7_inOrbit wsX7_goesOn := goodIn_r _ [8, 9, 10, 3, 11, 12, 13, 14, 15, 16, 7, 17, 18, 19, 20, 21, 22, 23, 24, 25, 26, 27, 28, 29, 30, 31, 32, 33, 34, 35, 36, 37, 38, 39, 40, 41, 42, 43, 44, 45, 46, 47, 48, 49, 50, 51, 52, 53, 54, 55, 56, 57, 58, 59, 60, 61, 62, 63] (by decide +kernel) (by decide +kernel)
set_option maxRecDepth 20000 in
theorem gX7_inOrbit_X7_goesOn : GoodIn wsX7_inOrbit (wsV RX7 177 RX7 yX7_goesOn wsX7_goesOn) := goodIn_app (goodIn_of _ (by decide +kernel)) ggX7_inOrbit_X7_goesOn
theorem dX7_inOrbit_0 : decode cX7_inOrbit 0 = .ok (.aload_n 0, 1) := by decide +kernel
theorem dX7_inOrbit_1 : decode cX7_inOrbit 1 = .ok (.aload_n 0, 1) := by decide +kernel
theorem dX7_inOrbit_2 : decode cX7_inOrbit 2 = .ok (.getfield 17, 3) := by decide +kernel
theorem dX7_inOrbit_5 : decode cX7_inOrbit 5 = .ok (.iload_n 1, 1) := by decide +kernel
theorem dX7_inOrbit_6 : decode cX7_inOrbit 6 = .ok (.iaload, 1) := by decide +kernel
theorem dX7_inOrbit_7 : decode cX7_inOrbit 7 = .ok (.aload_n 0, 1) := by decide +kernel
theorem dX7_inOrbit_8 : decode cX7_inOrbit 8 = .ok (.getfield 13, 3) := by decide +kernel
theorem dX7_inOrbit_11 : decode cX7_inOrbit 11 = .ok (.iload_n 1, 1) := by decide +kernel
theorem dX7_inOrbit_12 : decode cX7_inOrbit 12 = .ok (.iaload, 1) := by decide +kernel
theorem dX7_inOrbit_13 : decode cX7_inOrbit 13 = .ok (.invokevirtual 177, 3) := by decide +kernel
theorem dX7_inOrbit_16 : decode cX7_inOrbit 16 = .ok (.aload_n 0, 1) := by decide +kernel
theorem dX7_inOrbit_17 : decode cX7_inOrbit 17 = .ok (.getfield 174, 3) := by decide +kernel
theorem dX7_inOrbit_20 : decode cX7_inOrbit 20 = .ok (.ireturn, 1) := by decide +kernel
set_option maxRecDepth 20000 in
theorem ggX7_told_X7_roots : GoodIn wsX7_told wsX7_roots := goodIn_r _ [7, 8, 9, 10, 11, 6, 12, 1, 2, 13, 14, 15, 16, 17, 18, 19, 20, 21, 22, 23, 24, 25, 70, 71, 72, 73, 74, 75, 76, 77, 78, 79, 80, 81, 82, 83, 84, 85, 86, 87, 88, 89, 90, 91] (by decide +kernel) (by decide +kernel)
set_option maxRecDepth 20000 in
theorem gX7_told_X7_roots : GoodIn wsX7_told (wsV RX7 180 RX7 yX7_roots wsX7_roots) := goodIn_app (goodIn_of _ (by decide +kernel)) ggX7_told_X7_roots
set_option maxRecDepth 20000 in
theorem ggX7_told_X7_isNull : GoodIn wsX7_told wsX7_isNull := goodIn_r _ [29, 8, 1, 9, 10, 11, 6, 12, 2, 13, 14, 15, 16, 17, 18, 19, 20, 21, 22, 23, 24, 25, 70, 71, 72, 73, 74, 75, 76, 77, 78, 79, 80, 81, 82, 83, 84, 85, 86, 87, 88, 89, 90, 91] (by decide +kernel) (by decide +kernel)
set_option maxRecDepth 20000 in
theorem gX7_told_X7_isNull : GoodIn wsX7_told (wsV RX7 183 RX7 yX7_isNull wsX7_isNull) := goodIn_app (goodIn_of _ (by decide +kernel)) ggX7_told_X7_isNull
set_option maxRecDepth 20000 in
theorem ggX7_told_X7_isFixed : GoodIn wsX7_told wsX7_isFixed := goodIn_r _ [33, 34, 2, 35, 36, 37, 6, 38, 1, 39, 40, 41, 42, 43, 8, 44, 45, 46, 47, 13, 48, 14, 15, 16, 17, 18, 19, 20, 21, 22, 23, 24, 25, 49, 50, 51, 52, 70, 71, 72, 73, 74, 75, 76, 77, 78, 79, 80, 81, 82, 83, 84, 85, 86, 87, 88, 89, 90, 91] (by decide +kernel) (by decide +kernel)
set_option maxRecDepth 20000 in
theorem gX7_told_X7_isFixed : GoodIn wsX7_told (wsV RX7 186 RX7 yX7_isFixed wsX7_isFixed) := goodIn_app (goodIn_of _ (by decide +kernel)) ggX7_told_X7_isFixed
set_option maxRecDepth 20000 in
theorem ggX7_told_X7_inOrbit : GoodIn wsX7_told wsX7_inOrbit := goodIn_r _ [56, 2, 1, 57, 58, 59, 60, 6, 61, 62, 63, 34, 64, 65, 18, 19, 20, 21, 8, 39, 40, 41, 42, 43, 44, 45, 46, 47, 13, 48, 14, 15, 16, 17, 22, 23, 24, 25, 49, 50, 51, 52, 70, 71, 72, 73, 74, 75, 76, 77, 78, 79, 80, 81, 82, 83, 84, 85, 86, 87, 88, 89, 90, 91] (by decide +kernel) (by decide +kernel)
set_option maxRecDepth 20000 in
theorem gX7_told_X7_inOrbit : GoodIn wsX7_told (wsV RX7 189 RX7 yX7_inOrbit wsX7_inOrbit) := goodIn_app (goodIn_of _ (by decide +kernel)) ggX7_told_X7_inOrbit
set_option maxRecDepth 20000 in
theorem ggX7_told_X7_leastCode : GoodIn wsX7_told wsX7_leastCode := goodIn_r _ [69, 2, 1, 57, 63, 58, 59, 60, 6, 61, 62, 34, 64, 65, 18, 19, 20, 21, 8, 39, 40, 41, 42, 43, 44, 45, 46, 47, 13, 48, 14, 15, 16, 17, 22, 23, 24, 25, 49, 50, 51, 52, 70, 71, 72, 73, 74, 75, 76, 77, 78, 79, 80, 81, 82, 83, 84, 85, 86, 87, 88, 89, 90, 91] (by decide +kernel) (by decide +kernel)
set_option maxRecDepth 20000 in
theorem gX7_told_X7_leastCode : GoodIn wsX7_told (wsV RX7 192 RX7 yX7_leastCode wsX7_leastCode) := goodIn_app (goodIn_of _ (by decide +kernel)) ggX7_told_X7_leastCode
theorem dX7_told_0 : decode cX7_told 0 = .ok (.iload_n 2, 1) := by decide +kernel
theorem dX7_told_1 : decode cX7_told 1 = .ok (.tableswitch 77 0 5 #[39, 46, 53, 59, 65, 71], 39) := by decide +kernel
theorem dX7_told_40 : decode cX7_told 40 = .ok (.aload_n 0, 1) := by decide +kernel
theorem dX7_told_41 : decode cX7_told 41 = .ok (.getfield 13, 3) := by decide +kernel
theorem dX7_told_44 : decode cX7_told 44 = .ok (.iload_n 1, 1) := by decide +kernel
theorem dX7_told_45 : decode cX7_told 45 = .ok (.iaload, 1) := by decide +kernel
theorem dX7_told_46 : decode cX7_told 46 = .ok (.ireturn, 1) := by decide +kernel
theorem dX7_told_47 : decode cX7_told 47 = .ok (.aload_n 0, 1) := by decide +kernel
theorem dX7_told_48 : decode cX7_told 48 = .ok (.getfield 17, 3) := by decide +kernel
theorem dX7_told_51 : decode cX7_told 51 = .ok (.iload_n 1, 1) := by decide +kernel
theorem dX7_told_52 : decode cX7_told 52 = .ok (.iaload, 1) := by decide +kernel
theorem dX7_told_53 : decode cX7_told 53 = .ok (.ireturn, 1) := by decide +kernel
theorem dX7_told_54 : decode cX7_told 54 = .ok (.aload_n 0, 1) := by decide +kernel
theorem dX7_told_55 : decode cX7_told 55 = .ok (.iload_n 1, 1) := by decide +kernel
theorem dX7_told_56 : decode cX7_told 56 = .ok (.invokevirtual 180, 3) := by decide +kernel
theorem dX7_told_59 : decode cX7_told 59 = .ok (.ireturn, 1) := by decide +kernel
theorem dX7_told_60 : decode cX7_told 60 = .ok (.aload_n 0, 1) := by decide +kernel
theorem dX7_told_61 : decode cX7_told 61 = .ok (.iload_n 1, 1) := by decide +kernel
theorem dX7_told_62 : decode cX7_told 62 = .ok (.invokevirtual 183, 3) := by decide +kernel
theorem dX7_told_65 : decode cX7_told 65 = .ok (.ireturn, 1) := by decide +kernel
theorem dX7_told_66 : decode cX7_told 66 = .ok (.aload_n 0, 1) := by decide +kernel
theorem dX7_told_67 : decode cX7_told 67 = .ok (.iload_n 1, 1) := by decide +kernel
theorem dX7_told_68 : decode cX7_told 68 = .ok (.invokevirtual 186, 3) := by decide +kernel
theorem dX7_told_71 : decode cX7_told 71 = .ok (.ireturn, 1) := by decide +kernel
theorem dX7_told_72 : decode cX7_told 72 = .ok (.aload_n 0, 1) := by decide +kernel
theorem dX7_told_73 : decode cX7_told 73 = .ok (.iload_n 1, 1) := by decide +kernel
theorem dX7_told_74 : decode cX7_told 74 = .ok (.invokevirtual 189, 3) := by decide +kernel
theorem dX7_told_77 : decode cX7_told 77 = .ok (.ireturn, 1) := by decide +kernel
theorem dX7_told_78 : decode cX7_told 78 = .ok (.aload_n 0, 1) := by decide +kernel
theorem dX7_told_79 : decode cX7_told 79 = .ok (.iload_n 1, 1) := by decide +kernel
theorem dX7_told_80 : decode cX7_told 80 = .ok (.invokevirtual 192, 3) := by decide +kernel
theorem dX7_told_83 : decode cX7_told 83 = .ok (.ireturn, 1) := by decide +kernel
set_option maxRecDepth 20000 in
theorem ggX7_formIs_X7_isForm : GoodIn wsX7_formIs wsX7_isForm := goodIn_r _ [5, 6, 7, 8, 4, 9, 87, 88, 89, 90, 91, 92, 93, 94, 95, 96, 97, 98, 99, 100, 101, 102, 103, 104, 105, 106, 107, 108] (by decide +kernel) (by decide +kernel)
set_option maxRecDepth 20000 in
theorem gX7_formIs_X7_isForm : GoodIn wsX7_formIs (wsV RX7 91 RX7 yX7_isForm wsX7_isForm) := goodIn_app (goodIn_of _ (by decide +kernel)) ggX7_formIs_X7_isForm
set_option maxRecDepth 20000 in
theorem ggX7_formIs_X7_isIn : GoodIn wsX7_formIs wsX7_isIn := goodIn_r _ [9] (by decide +kernel) (by decide +kernel)
set_option maxRecDepth 20000 in
theorem gX7_formIs_X7_isIn : GoodIn wsX7_formIs (va_wsS RX7 66 yX7_isIn wsX7_isIn) := goodIn_app (goodIn_of _ (by decide +kernel)) ggX7_formIs_X7_isIn
set_option maxRecDepth 20000 in
theorem ggX7_formIs_X7_holds : GoodIn wsX7_formIs wsX7_holds := goodIn_r _ [13, 14, 87, 88, 89, 90, 91, 92, 93, 94, 95, 96, 97, 98, 99, 100, 101, 102, 103, 104, 105, 106, 107, 108] (by decide +kernel) (by decide +kernel)
set_option maxRecDepth 20000 in
theorem gX7_formIs_X7_holds : GoodIn wsX7_formIs (wsV RX7 74 RX7 yX7_holds wsX7_holds) := goodIn_app (goodIn_of _ (by decide +kernel)) ggX7_formIs_X7_holds
set_option maxRecDepth 20000 in
theorem ggX7_formIs_X7_told : GoodIn wsX7_formIs wsX7_told := goodIn_r _ [18, 19, 20, 21, 22, 23, 4, 24, 25, 26, 27, 28, 29, 30, 31, 32, 33, 34, 35, 36, 37, 38, 39, 40, 41, 42, 43, 44, 45, 46, 47, 48, 49, 50, 51, 52, 53, 54, 55, 56, 57, 58, 59, 60, 61, 62, 63, 64, 65, 66, 67, 68, 69, 70, 71, 72, 73, 74, 75, 76, 77, 78, 79, 80, 81, 82, 83, 84, 85, 86, 87, 88, 89, 90, 91, 92, 93, 94, 95, 96, 97, 98, 99, 100, 101, 102, 103, 104, 105, 106, 107, 108] (by decide +kernel) (by decide +kernel)
set_option maxRecDepth 20000 in
theorem gX7_formIs_X7_told : GoodIn wsX7_formIs (wsV RX7 195 RX7 yX7_told wsX7_told) := goodIn_app (goodIn_of _ (by decide +kernel)) ggX7_formIs_X7_told
theorem dX7_formIs_0 : decode cX7_formIs 0 = .ok (.aload_n 0, 1) := by decide +kernel
theorem dX7_formIs_1 : decode cX7_formIs 1 = .ok (.iload_n 1, 1) := by decide +kernel
theorem dX7_formIs_2 : decode cX7_formIs 2 = .ok (.invokevirtual 91, 3) := by decide +kernel
theorem dX7_formIs_5 : decode cX7_formIs 5 = .ok (.istore_n 3, 1) := by decide +kernel
theorem dX7_formIs_6 : decode cX7_formIs 6 = .ok (.aload_n 0, 1) := by decide +kernel
theorem dX7_formIs_7 : decode cX7_formIs 7 = .ok (.iload_n 3, 1) := by decide +kernel
theorem dX7_formIs_8 : decode cX7_formIs 8 = .ok (.ifCond .ne 7, 3) := by decide +kernel
theorem dX7_formIs_11 : decode cX7_formIs 11 = .ok (.iconst 1, 1) := by decide +kernel
theorem dX7_formIs_12 : decode cX7_formIs 12 = .ok (.goto 18, 3) := by decide +kernel
theorem dX7_formIs_15 : decode cX7_formIs 15 = .ok (.iload_n 2, 1) := by decide +kernel
theorem dX7_formIs_16 : decode cX7_formIs 16 = .ok (.iconst 0, 1) := by decide +kernel
theorem dX7_formIs_17 : decode cX7_formIs 17 = .ok (.bipush 6, 2) := by decide +kernel
theorem dX7_formIs_19 : decode cX7_formIs 19 = .ok (.invokestatic 66, 3) := by decide +kernel
theorem dX7_formIs_22 : decode cX7_formIs 22 = .ok (.ifCond .ne 7, 3) := by decide +kernel
theorem dX7_formIs_25 : decode cX7_formIs 25 = .ok (.iconst 2, 1) := by decide +kernel
theorem dX7_formIs_26 : decode cX7_formIs 26 = .ok (.goto 4, 3) := by decide +kernel
theorem dX7_formIs_29 : decode cX7_formIs 29 = .ok (.iconst 0, 1) := by decide +kernel
theorem dX7_formIs_30 : decode cX7_formIs 30 = .ok (.invokevirtual 74, 3) := by decide +kernel
theorem dX7_formIs_33 : decode cX7_formIs 33 = .ok (.ifCond .eq 12, 3) := by decide +kernel
theorem dX7_formIs_36 : decode cX7_formIs 36 = .ok (.aload_n 0, 1) := by decide +kernel
theorem dX7_formIs_37 : decode cX7_formIs 37 = .ok (.iload_n 1, 1) := by decide +kernel
theorem dX7_formIs_38 : decode cX7_formIs 38 = .ok (.iload_n 2, 1) := by decide +kernel
theorem dX7_formIs_39 : decode cX7_formIs 39 = .ok (.invokevirtual 195, 3) := by decide +kernel
theorem dX7_formIs_42 : decode cX7_formIs 42 = .ok (.goto 4, 3) := by decide +kernel
theorem dX7_formIs_45 : decode cX7_formIs 45 = .ok (.iconst 0, 1) := by decide +kernel
theorem dX7_formIs_46 : decode cX7_formIs 46 = .ok (.ireturn, 1) := by decide +kernel
set_option maxRecDepth 20000 in
theorem ggX7_wayTo_X7_goesOn : GoodIn wsX7_wayTo wsX7_goesOn := goodIn_r _ [8, 3, 9, 10, 11, 12, 13, 14, 15, 16, 7, 17, 18, 19, 20, 21, 22, 23, 24, 25, 26, 27, 28, 29, 30, 31, 32, 33, 34, 35, 36, 37, 38, 39, 40, 41, 42, 43, 44, 45, 46, 47, 48, 49, 50, 51, 52, 53, 54, 55, 56, 57, 58, 59, 60, 61, 62, 63] (by decide +kernel) (by decide +kernel)
set_option maxRecDepth 20000 in
theorem gX7_wayTo_X7_goesOn : GoodIn wsX7_wayTo (wsV RX7 177 RX7 yX7_goesOn wsX7_goesOn) := goodIn_app (goodIn_of _ (by decide +kernel)) ggX7_wayTo_X7_goesOn
theorem dX7_wayTo_0 : decode cX7_wayTo 0 = .ok (.aload_n 0, 1) := by decide +kernel
theorem dX7_wayTo_1 : decode cX7_wayTo 1 = .ok (.aload_n 0, 1) := by decide +kernel
theorem dX7_wayTo_2 : decode cX7_wayTo 2 = .ok (.getfield 17, 3) := by decide +kernel
theorem dX7_wayTo_5 : decode cX7_wayTo 5 = .ok (.iload_n 1, 1) := by decide +kernel
theorem dX7_wayTo_6 : decode cX7_wayTo 6 = .ok (.iaload, 1) := by decide +kernel
theorem dX7_wayTo_7 : decode cX7_wayTo 7 = .ok (.aload_n 0, 1) := by decide +kernel
theorem dX7_wayTo_8 : decode cX7_wayTo 8 = .ok (.getfield 13, 3) := by decide +kernel
theorem dX7_wayTo_11 : decode cX7_wayTo 11 = .ok (.iload_n 1, 1) := by decide +kernel
theorem dX7_wayTo_12 : decode cX7_wayTo 12 = .ok (.iaload, 1) := by decide +kernel
theorem dX7_wayTo_13 : decode cX7_wayTo 13 = .ok (.invokevirtual 177, 3) := by decide +kernel
theorem dX7_wayTo_16 : decode cX7_wayTo 16 = .ok (.aload_n 0, 1) := by decide +kernel
theorem dX7_wayTo_17 : decode cX7_wayTo 17 = .ok (.getfield 54, 3) := by decide +kernel
theorem dX7_wayTo_20 : decode cX7_wayTo 20 = .ok (.aload_n 0, 1) := by decide +kernel
theorem dX7_wayTo_21 : decode cX7_wayTo 21 = .ok (.getfield 17, 3) := by decide +kernel
theorem dX7_wayTo_24 : decode cX7_wayTo 24 = .ok (.iload_n 2, 1) := by decide +kernel
theorem dX7_wayTo_25 : decode cX7_wayTo 25 = .ok (.iaload, 1) := by decide +kernel
theorem dX7_wayTo_26 : decode cX7_wayTo 26 = .ok (.iaload, 1) := by decide +kernel
theorem dX7_wayTo_27 : decode cX7_wayTo 27 = .ok (.ireturn, 1) := by decide +kernel
set_option maxRecDepth 20000 in
theorem ggX7_way_X7_isForm : GoodIn wsX7_way wsX7_isForm := goodIn_r _ [6, 7, 8, 9, 5, 10, 59, 60, 61, 62, 63, 64, 65, 66, 67, 68, 69, 70, 71, 72, 73, 74, 75, 76, 77, 78, 79, 80] (by decide +kernel) (by decide +kernel)
set_option maxRecDepth 20000 in
theorem gX7_way_X7_isForm : GoodIn wsX7_way (wsV RX7 91 RX7 yX7_isForm wsX7_isForm) := goodIn_app (goodIn_of _ (by decide +kernel)) ggX7_way_X7_isForm
set_option maxRecDepth 20000 in
theorem ggX7_way_X7_holds : GoodIn wsX7_way wsX7_holds := goodIn_r _ [14, 15, 59, 60, 61, 62, 63, 64, 65, 66, 67, 68, 69, 70, 71, 72, 73, 74, 75, 76, 77, 78, 79, 80] (by decide +kernel) (by decide +kernel)
set_option maxRecDepth 20000 in
theorem gX7_way_X7_holds : GoodIn wsX7_way (wsV RX7 74 RX7 yX7_holds wsX7_holds) := goodIn_app (goodIn_of _ (by decide +kernel)) ggX7_way_X7_holds
set_option maxRecDepth 20000 in
theorem ggX7_way_X7_wayTo : GoodIn wsX7_way wsX7_wayTo := goodIn_r _ [19, 20, 1, 21, 22, 23, 24, 5, 25, 26, 27, 28, 29, 30, 31, 32, 33, 34, 35, 36, 37, 38, 39, 40, 41, 42, 43, 44, 45, 46, 47, 48, 49, 50, 51, 52, 53, 54, 55, 56, 57, 58, 59, 60, 61, 62, 63, 64, 65, 66, 67, 68, 69, 70, 71, 72, 73, 74, 75, 76, 77, 78, 79, 80] (by decide +kernel) (by decide +kernel)
set_option maxRecDepth 20000 in
theorem gX7_way_X7_wayTo : GoodIn wsX7_way (wsV RX7 198 RX7 yX7_wayTo wsX7_wayTo) := goodIn_app (goodIn_of _ (by decide +kernel)) ggX7_way_X7_wayTo
theorem dX7_way_0 : decode cX7_way 0 = .ok (.aload_n 0, 1) := by decide +kernel
theorem dX7_way_1 : decode cX7_way 1 = .ok (.iload_n 1, 1) := by decide +kernel
theorem dX7_way_2 : decode cX7_way 2 = .ok (.invokevirtual 91, 3) := by decide +kernel
theorem dX7_way_5 : decode cX7_way 5 = .ok (.ifCond .eq 15, 3) := by decide +kernel
theorem dX7_way_8 : decode cX7_way 8 = .ok (.aload_n 0, 1) := by decide +kernel
theorem dX7_way_9 : decode cX7_way 9 = .ok (.iload_n 2, 1) := by decide +kernel
theorem dX7_way_10 : decode cX7_way 10 = .ok (.invokevirtual 91, 3) := by decide +kernel
theorem dX7_way_13 : decode cX7_way 13 = .ok (.ifCond .eq 7, 3) := by decide +kernel
theorem dX7_way_16 : decode cX7_way 16 = .ok (.iconst 1, 1) := by decide +kernel
theorem dX7_way_17 : decode cX7_way 17 = .ok (.goto 4, 3) := by decide +kernel
theorem dX7_way_20 : decode cX7_way 20 = .ok (.iconst 0, 1) := by decide +kernel
theorem dX7_way_21 : decode cX7_way 21 = .ok (.istore_n 3, 1) := by decide +kernel
theorem dX7_way_22 : decode cX7_way 22 = .ok (.aload_n 0, 1) := by decide +kernel
theorem dX7_way_23 : decode cX7_way 23 = .ok (.iload_n 3, 1) := by decide +kernel
theorem dX7_way_24 : decode cX7_way 24 = .ok (.ifCond .ne 7, 3) := by decide +kernel
theorem dX7_way_27 : decode cX7_way 27 = .ok (.iconst 1, 1) := by decide +kernel
theorem dX7_way_28 : decode cX7_way 28 = .ok (.goto 23, 3) := by decide +kernel
theorem dX7_way_31 : decode cX7_way 31 = .ok (.aload_n 0, 1) := by decide +kernel
theorem dX7_way_32 : decode cX7_way 32 = .ok (.getfield 13, 3) := by decide +kernel
theorem dX7_way_35 : decode cX7_way 35 = .ok (.iload_n 1, 1) := by decide +kernel
theorem dX7_way_36 : decode cX7_way 36 = .ok (.iaload, 1) := by decide +kernel
theorem dX7_way_37 : decode cX7_way 37 = .ok (.aload_n 0, 1) := by decide +kernel
theorem dX7_way_38 : decode cX7_way 38 = .ok (.getfield 13, 3) := by decide +kernel
theorem dX7_way_41 : decode cX7_way 41 = .ok (.iload_n 2, 1) := by decide +kernel
theorem dX7_way_42 : decode cX7_way 42 = .ok (.iaload, 1) := by decide +kernel
theorem dX7_way_43 : decode cX7_way 43 = .ok (.if_icmp .eq 7, 3) := by decide +kernel
theorem dX7_way_46 : decode cX7_way 46 = .ok (.iconst 2, 1) := by decide +kernel
theorem dX7_way_47 : decode cX7_way 47 = .ok (.goto 4, 3) := by decide +kernel
theorem dX7_way_50 : decode cX7_way 50 = .ok (.iconst 0, 1) := by decide +kernel
theorem dX7_way_51 : decode cX7_way 51 = .ok (.invokevirtual 74, 3) := by decide +kernel
theorem dX7_way_54 : decode cX7_way 54 = .ok (.ifCond .eq 12, 3) := by decide +kernel
theorem dX7_way_57 : decode cX7_way 57 = .ok (.aload_n 0, 1) := by decide +kernel
theorem dX7_way_58 : decode cX7_way 58 = .ok (.iload_n 1, 1) := by decide +kernel
theorem dX7_way_59 : decode cX7_way 59 = .ok (.iload_n 2, 1) := by decide +kernel
theorem dX7_way_60 : decode cX7_way 60 = .ok (.invokevirtual 198, 3) := by decide +kernel
theorem dX7_way_63 : decode cX7_way 63 = .ok (.goto 4, 3) := by decide +kernel
theorem dX7_way_66 : decode cX7_way 66 = .ok (.iconst 0, 1) := by decide +kernel
theorem dX7_way_67 : decode cX7_way 67 = .ok (.ireturn, 1) := by decide +kernel
set_option maxRecDepth 20000 in
theorem ggX7_stepAt_X7_wayTo : GoodIn wsX7_stepAt wsX7_wayTo := goodIn_r _ [8, 1, 9, 10, 11, 12, 13, 7, 14, 15, 16, 17, 3, 2, 18, 19, 20, 21, 22, 23, 24, 25, 26, 27, 28, 29, 30, 31, 32, 33, 34, 35, 36, 37, 38, 39, 40, 41, 42, 43, 44, 45, 46, 47, 48, 49, 50, 51, 52, 53, 54, 55, 56, 57, 58, 59, 60, 61, 62, 63, 64, 65, 66, 67] (by decide +kernel) (by decide +kernel)
set_option maxRecDepth 20000 in
theorem gX7_stepAt_X7_wayTo : GoodIn wsX7_stepAt (wsV RX7 198 RX7 yX7_wayTo wsX7_wayTo) := goodIn_app (goodIn_of _ (by decide +kernel)) ggX7_stepAt_X7_wayTo
theorem dX7_stepAt_0 : decode cX7_stepAt 0 = .ok (.aload_n 0, 1) := by decide +kernel
theorem dX7_stepAt_1 : decode cX7_stepAt 1 = .ok (.iload_n 1, 1) := by decide +kernel
theorem dX7_stepAt_2 : decode cX7_stepAt 2 = .ok (.iload_n 2, 1) := by decide +kernel
theorem dX7_stepAt_3 : decode cX7_stepAt 3 = .ok (.invokevirtual 198, 3) := by decide +kernel
theorem dX7_stepAt_6 : decode cX7_stepAt 6 = .ok (.istore 4, 2) := by decide +kernel
theorem dX7_stepAt_8 : decode cX7_stepAt 8 = .ok (.iload_n 3, 1) := by decide +kernel
theorem dX7_stepAt_9 : decode cX7_stepAt 9 = .ok (.iload 4, 2) := by decide +kernel
theorem dX7_stepAt_11 : decode cX7_stepAt 11 = .ok (.if_icmp .lt 5, 3) := by decide +kernel
theorem dX7_stepAt_14 : decode cX7_stepAt 14 = .ok (.iconst (-1), 1) := by decide +kernel
theorem dX7_stepAt_15 : decode cX7_stepAt 15 = .ok (.ireturn, 1) := by decide +kernel
theorem dX7_stepAt_16 : decode cX7_stepAt 16 = .ok (.aload_n 0, 1) := by decide +kernel
theorem dX7_stepAt_17 : decode cX7_stepAt 17 = .ok (.getfield 17, 3) := by decide +kernel
theorem dX7_stepAt_20 : decode cX7_stepAt 20 = .ok (.iload_n 2, 1) := by decide +kernel
theorem dX7_stepAt_21 : decode cX7_stepAt 21 = .ok (.iaload, 1) := by decide +kernel
theorem dX7_stepAt_22 : decode cX7_stepAt 22 = .ok (.istore 5, 2) := by decide +kernel
theorem dX7_stepAt_24 : decode cX7_stepAt 24 = .ok (.iload 4, 2) := by decide +kernel
theorem dX7_stepAt_26 : decode cX7_stepAt 26 = .ok (.istore 6, 2) := by decide +kernel
theorem dX7_stepAt_28 : decode cX7_stepAt 28 = .ok (.iload 6, 2) := by decide +kernel
theorem dX7_stepAt_30 : decode cX7_stepAt 30 = .ok (.iload_n 3, 1) := by decide +kernel
theorem dX7_stepAt_31 : decode cX7_stepAt 31 = .ok (.iconst 1, 1) := by decide +kernel
theorem dX7_stepAt_32 : decode cX7_stepAt 32 = .ok (.iadd, 1) := by decide +kernel
theorem dX7_stepAt_33 : decode cX7_stepAt 33 = .ok (.if_icmp .le 18, 3) := by decide +kernel
theorem dX7_stepAt_36 : decode cX7_stepAt 36 = .ok (.aload_n 0, 1) := by decide +kernel
theorem dX7_stepAt_37 : decode cX7_stepAt 37 = .ok (.getfield 51, 3) := by decide +kernel
theorem dX7_stepAt_40 : decode cX7_stepAt 40 = .ok (.iload 5, 2) := by decide +kernel
theorem dX7_stepAt_42 : decode cX7_stepAt 42 = .ok (.iaload, 1) := by decide +kernel
theorem dX7_stepAt_43 : decode cX7_stepAt 43 = .ok (.istore 5, 2) := by decide +kernel
theorem dX7_stepAt_45 : decode cX7_stepAt 45 = .ok (.iinc 6 (-1), 3) := by decide +kernel
theorem dX7_stepAt_48 : decode cX7_stepAt 48 = .ok (.goto (-20), 3) := by decide +kernel
theorem dX7_stepAt_51 : decode cX7_stepAt 51 = .ok (.aload_n 0, 1) := by decide +kernel
theorem dX7_stepAt_52 : decode cX7_stepAt 52 = .ok (.getfield 48, 3) := by decide +kernel
theorem dX7_stepAt_55 : decode cX7_stepAt 55 = .ok (.iload 5, 2) := by decide +kernel
theorem dX7_stepAt_57 : decode cX7_stepAt 57 = .ok (.iaload, 1) := by decide +kernel
theorem dX7_stepAt_58 : decode cX7_stepAt 58 = .ok (.ireturn, 1) := by decide +kernel
set_option maxRecDepth 20000 in
theorem ggX7_step_X7_isForm : GoodIn wsX7_step wsX7_isForm := goodIn_r _ [6, 7, 8, 9, 5, 10, 63, 64, 65, 66, 67, 68, 69, 70, 71, 72, 73, 74, 75, 76, 77, 78, 79, 80, 81, 82, 83, 84] (by decide +kernel) (by decide +kernel)
set_option maxRecDepth 20000 in
theorem gX7_step_X7_isForm : GoodIn wsX7_step (wsV RX7 91 RX7 yX7_isForm wsX7_isForm) := goodIn_app (goodIn_of _ (by decide +kernel)) ggX7_step_X7_isForm
set_option maxRecDepth 20000 in
theorem ggX7_step_X7_holds : GoodIn wsX7_step wsX7_holds := goodIn_r _ [14, 15, 63, 64, 65, 66, 67, 68, 69, 70, 71, 72, 73, 74, 75, 76, 77, 78, 79, 80, 81, 82, 83, 84] (by decide +kernel) (by decide +kernel)
set_option maxRecDepth 20000 in
theorem gX7_step_X7_holds : GoodIn wsX7_step (wsV RX7 74 RX7 yX7_holds wsX7_holds) := goodIn_app (goodIn_of _ (by decide +kernel)) ggX7_step_X7_holds
set_option maxRecDepth 20000 in
theorem ggX7_step_X7_stepAt : GoodIn wsX7_step wsX7_stepAt := goodIn_r _ [19, 20, 21, 22, 23, 24, 25, 5, 26, 1, 27, 28, 29, 30, 31, 32, 33, 34, 35, 36, 37, 38, 39, 40, 41, 42, 43, 44, 45, 46, 47, 48, 49, 50, 51, 52, 53, 54, 55, 56, 57, 58, 59, 60, 61, 62, 63, 64, 65, 66, 67, 68, 69, 70, 71, 72, 73, 74, 75, 76, 77, 78, 79, 80, 81, 82, 83, 84] (by decide +kernel) (by decide +kernel)
set_option maxRecDepth 20000 in
theorem gX7_step_X7_stepAt : GoodIn wsX7_step (wsV RX7 201 RX7 yX7_stepAt wsX7_stepAt) := goodIn_app (goodIn_of _ (by decide +kernel)) ggX7_step_X7_stepAt
theorem dX7_step_0 : decode cX7_step 0 = .ok (.aload_n 0, 1) := by decide +kernel
theorem dX7_step_1 : decode cX7_step 1 = .ok (.iload_n 1, 1) := by decide +kernel
theorem dX7_step_2 : decode cX7_step 2 = .ok (.invokevirtual 91, 3) := by decide +kernel
theorem dX7_step_5 : decode cX7_step 5 = .ok (.ifCond .eq 15, 3) := by decide +kernel
theorem dX7_step_8 : decode cX7_step 8 = .ok (.aload_n 0, 1) := by decide +kernel
theorem dX7_step_9 : decode cX7_step 9 = .ok (.iload_n 2, 1) := by decide +kernel
theorem dX7_step_10 : decode cX7_step 10 = .ok (.invokevirtual 91, 3) := by decide +kernel
theorem dX7_step_13 : decode cX7_step 13 = .ok (.ifCond .eq 7, 3) := by decide +kernel
theorem dX7_step_16 : decode cX7_step 16 = .ok (.iconst 1, 1) := by decide +kernel
theorem dX7_step_17 : decode cX7_step 17 = .ok (.goto 4, 3) := by decide +kernel
theorem dX7_step_20 : decode cX7_step 20 = .ok (.iconst 0, 1) := by decide +kernel
theorem dX7_step_21 : decode cX7_step 21 = .ok (.istore 4, 2) := by decide +kernel
theorem dX7_step_23 : decode cX7_step 23 = .ok (.aload_n 0, 1) := by decide +kernel
theorem dX7_step_24 : decode cX7_step 24 = .ok (.iload 4, 2) := by decide +kernel
theorem dX7_step_26 : decode cX7_step 26 = .ok (.ifCond .ne 7, 3) := by decide +kernel
theorem dX7_step_29 : decode cX7_step 29 = .ok (.iconst 1, 1) := by decide +kernel
theorem dX7_step_30 : decode cX7_step 30 = .ok (.goto 27, 3) := by decide +kernel
theorem dX7_step_33 : decode cX7_step 33 = .ok (.aload_n 0, 1) := by decide +kernel
theorem dX7_step_34 : decode cX7_step 34 = .ok (.getfield 13, 3) := by decide +kernel
theorem dX7_step_37 : decode cX7_step 37 = .ok (.iload_n 1, 1) := by decide +kernel
theorem dX7_step_38 : decode cX7_step 38 = .ok (.iaload, 1) := by decide +kernel
