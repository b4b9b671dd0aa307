theorem dL_law_289 : decode cL_law 289 = .ok (.iload_n 2, 1) := by decide +kernel
theorem dL_law_290 : decode cL_law 290 = .ok (.irem, 1) := by decide +kernel
theorem dL_law_291 : decode cL_law 291 = .ok (.iload 15, 2) := by decide +kernel
theorem dL_law_293 : decode cL_law 293 = .ok (.iload_n 2, 1) := by decide +kernel
theorem dL_law_294 : decode cL_law 294 = .ok (.iload_n 2, 1) := by decide +kernel
theorem dL_law_295 : decode cL_law 295 = .ok (.imul, 1) := by decide +kernel
theorem dL_law_296 : decode cL_law 296 = .ok (.idiv, 1) := by decide +kernel
theorem dL_law_297 : decode cL_law 297 = .ok (.iload_n 2, 1) := by decide +kernel
theorem dL_law_298 : decode cL_law 298 = .ok (.irem, 1) := by decide +kernel
theorem dL_law_299 : decode cL_law 299 = .ok (.imul, 1) := by decide +kernel
theorem dL_law_300 : decode cL_law 300 = .ok (.isub, 1) := by decide +kernel
theorem dL_law_301 : decode cL_law 301 = .ok (.iload_n 2, 1) := by decide +kernel
theorem dL_law_302 : decode cL_law 302 = .ok (.irem, 1) := by decide +kernel
theorem dL_law_303 : decode cL_law 303 = .ok (.iload_n 2, 1) := by decide +kernel
theorem dL_law_304 : decode cL_law 304 = .ok (.iadd, 1) := by decide +kernel
theorem dL_law_305 : decode cL_law 305 = .ok (.iload_n 2, 1) := by decide +kernel
theorem dL_law_306 : decode cL_law 306 = .ok (.irem, 1) := by decide +kernel
theorem dL_law_307 : decode cL_law 307 = .ok (.ifCond .le 7, 3) := by decide +kernel
theorem dL_law_310 : decode cL_law 310 = .ok (.iconst 1, 1) := by decide +kernel
theorem dL_law_311 : decode cL_law 311 = .ok (.goto 4, 3) := by decide +kernel
theorem dL_law_314 : decode cL_law 314 = .ok (.iconst 0, 1) := by decide +kernel
theorem dL_law_315 : decode cL_law 315 = .ok (.istore 17, 2) := by decide +kernel
theorem dL_law_317 : decode cL_law 317 = .ok (.iload 16, 2) := by decide +kernel
theorem dL_law_319 : decode cL_law 319 = .ok (.iload 17, 2) := by decide +kernel
theorem dL_law_321 : decode cL_law 321 = .ok (.ifCond .ne 8, 3) := by decide +kernel
theorem dL_law_324 : decode cL_law 324 = .ok (.bipush (-12), 2) := by decide +kernel
theorem dL_law_326 : decode cL_law 326 = .ok (.goto 16, 3) := by decide +kernel
theorem dL_law_329 : decode cL_law 329 = .ok (.iload 4, 2) := by decide +kernel
theorem dL_law_331 : decode cL_law 331 = .ok (.iconst 4, 1) := by decide +kernel
theorem dL_law_332 : decode cL_law 332 = .ok (.if_icmp .ne 8, 3) := by decide +kernel
theorem dL_law_335 : decode cL_law 335 = .ok (.bipush (-13), 2) := by decide +kernel
theorem dL_law_337 : decode cL_law 337 = .ok (.goto 5, 3) := by decide +kernel
theorem dL_law_340 : decode cL_law 340 = .ok (.iload 4, 2) := by decide +kernel
theorem dL_law_342 : decode cL_law 342 = .ok (.if_icmp .ne 7, 3) := by decide +kernel
theorem dL_law_345 : decode cL_law 345 = .ok (.iconst 1, 1) := by decide +kernel
theorem dL_law_346 : decode cL_law 346 = .ok (.goto 4, 3) := by decide +kernel
theorem dL_law_349 : decode cL_law 349 = .ok (.iconst 0, 1) := by decide +kernel
theorem dL_law_350 : decode cL_law 350 = .ok (.istore 7, 2) := by decide +kernel
theorem dL_law_352 : decode cL_law 352 = .ok (.iload 4, 2) := by decide +kernel
theorem dL_law_354 : decode cL_law 354 = .ok (.iload 16, 2) := by decide +kernel
theorem dL_law_356 : decode cL_law 356 = .ok (.ifCond .lt 7, 3) := by decide +kernel
theorem dL_law_359 : decode cL_law 359 = .ok (.iconst 1, 1) := by decide +kernel
theorem dL_law_360 : decode cL_law 360 = .ok (.goto 4, 3) := by decide +kernel
theorem dL_law_363 : decode cL_law 363 = .ok (.iconst 0, 1) := by decide +kernel
theorem dL_law_364 : decode cL_law 364 = .ok (.iadd, 1) := by decide +kernel
theorem dL_law_365 : decode cL_law 365 = .ok (.istore 4, 2) := by decide +kernel
theorem dL_law_367 : decode cL_law 367 = .ok (.goto 901, 3) := by decide +kernel
theorem dL_law_370 : decode cL_law 370 = .ok (.iload 12, 2) := by decide +kernel
theorem dL_law_372 : decode cL_law 372 = .ok (.iconst 4, 1) := by decide +kernel
theorem dL_law_373 : decode cL_law 373 = .ok (.if_icmp .ne 74, 3) := by decide +kernel
theorem dL_law_376 : decode cL_law 376 = .ok (.iload 11, 2) := by decide +kernel
theorem dL_law_378 : decode cL_law 378 = .ok (.bipush 7, 2) := by decide +kernel
theorem dL_law_380 : decode cL_law 380 = .ok (.iand, 1) := by decide +kernel
theorem dL_law_381 : decode cL_law 381 = .ok (.ifCond .ne 66, 3) := by decide +kernel
theorem dL_law_384 : decode cL_law 384 = .ok (.iload 11, 2) := by decide +kernel
theorem dL_law_386 : decode cL_law 386 = .ok (.iconst 3, 1) := by decide +kernel
theorem dL_law_387 : decode cL_law 387 = .ok (.ishr, 1) := by decide +kernel
theorem dL_law_388 : decode cL_law 388 = .ok (.iconst 3, 1) := by decide +kernel
theorem dL_law_389 : decode cL_law 389 = .ok (.irem, 1) := by decide +kernel
theorem dL_law_390 : decode cL_law 390 = .ok (.istore 15, 2) := by decide +kernel
