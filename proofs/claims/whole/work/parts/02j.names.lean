theorem dX10_does_283 : decode cX10_does 283 = .ok (.iload_n 3, 1) := by decide +kernel
theorem dX10_does_284 : decode cX10_does 284 = .ok (.invokevirtual 69, 3) := by decide +kernel
theorem dX10_does_287 : decode cX10_does 287 = .ok (.goto 5, 3) := by decide +kernel
theorem dX10_does_290 : decode cX10_does 290 = .ok (.ldc 59, 2) := by decide +kernel
theorem dX10_does_292 : decode cX10_does 292 = .ok (.istore 6, 2) := by decide +kernel
theorem dX10_does_294 : decode cX10_does 294 = .ok (.goto 74, 3) := by decide +kernel
theorem dX10_does_297 : decode cX10_does 297 = .ok (.iload_n 1, 1) := by decide +kernel
theorem dX10_does_298 : decode cX10_does 298 = .ok (.bipush 100, 2) := by decide +kernel
theorem dX10_does_300 : decode cX10_does 300 = .ok (.if_icmp .ne 15, 3) := by decide +kernel
theorem dX10_does_303 : decode cX10_does 303 = .ok (.aload_n 0, 1) := by decide +kernel
theorem dX10_does_304 : decode cX10_does 304 = .ok (.bipush 6, 2) := by decide +kernel
theorem dX10_does_306 : decode cX10_does 306 = .ok (.iload_n 3, 1) := by decide +kernel
theorem dX10_does_307 : decode cX10_does 307 = .ok (.invokevirtual 72, 3) := by decide +kernel
theorem dX10_does_310 : decode cX10_does 310 = .ok (.istore 6, 2) := by decide +kernel
theorem dX10_does_312 : decode cX10_does 312 = .ok (.goto 56, 3) := by decide +kernel
theorem dX10_does_315 : decode cX10_does 315 = .ok (.iload_n 1, 1) := by decide +kernel
theorem dX10_does_316 : decode cX10_does 316 = .ok (.bipush 110, 2) := by decide +kernel
theorem dX10_does_318 : decode cX10_does 318 = .ok (.if_icmp .ne 14, 3) := by decide +kernel
theorem dX10_does_321 : decode cX10_does 321 = .ok (.aload_n 0, 1) := by decide +kernel
theorem dX10_does_322 : decode cX10_does 322 = .ok (.bipush 6, 2) := by decide +kernel
theorem dX10_does_324 : decode cX10_does 324 = .ok (.invokevirtual 75, 3) := by decide +kernel
theorem dX10_does_327 : decode cX10_does 327 = .ok (.istore 6, 2) := by decide +kernel
theorem dX10_does_329 : decode cX10_does 329 = .ok (.goto 39, 3) := by decide +kernel
theorem dX10_does_332 : decode cX10_does 332 = .ok (.iload_n 3, 1) := by decide +kernel
theorem dX10_does_333 : decode cX10_does 333 = .ok (.ifCond .le 7, 3) := by decide +kernel
theorem dX10_does_336 : decode cX10_does 336 = .ok (.iconst 0, 1) := by decide +kernel
theorem dX10_does_337 : decode cX10_does 337 = .ok (.goto 5, 3) := by decide +kernel
theorem dX10_does_340 : decode cX10_does 340 = .ok (.ldc 59, 2) := by decide +kernel
theorem dX10_does_342 : decode cX10_does 342 = .ok (.istore 6, 2) := by decide +kernel
theorem dX10_does_344 : decode cX10_does 344 = .ok (.aload_n 0, 1) := by decide +kernel
theorem dX10_does_345 : decode cX10_does 345 = .ok (.getfield 7, 3) := by decide +kernel
theorem dX10_does_348 : decode cX10_does 348 = .ok (.sipush 942, 3) := by decide +kernel
theorem dX10_does_351 : decode cX10_does 351 = .ok (.iload_n 3, 1) := by decide +kernel
theorem dX10_does_352 : decode cX10_does 352 = .ok (.ifCond .le 7, 3) := by decide +kernel
theorem dX10_does_355 : decode cX10_does 355 = .ok (.iload_n 3, 1) := by decide +kernel
theorem dX10_does_356 : decode cX10_does 356 = .ok (.goto 11, 3) := by decide +kernel
theorem dX10_does_359 : decode cX10_does 359 = .ok (.aload_n 0, 1) := by decide +kernel
theorem dX10_does_360 : decode cX10_does 360 = .ok (.getfield 7, 3) := by decide +kernel
theorem dX10_does_363 : decode cX10_does 363 = .ok (.sipush 942, 3) := by decide +kernel
theorem dX10_does_366 : decode cX10_does 366 = .ok (.iaload, 1) := by decide +kernel
theorem dX10_does_367 : decode cX10_does 367 = .ok (.iastore, 1) := by decide +kernel
theorem dX10_does_368 : decode cX10_does 368 = .ok (.aload_n 0, 1) := by decide +kernel
theorem dX10_does_369 : decode cX10_does 369 = .ok (.iload 6, 2) := by decide +kernel
theorem dX10_does_371 : decode cX10_does 371 = .ok (.ifCond .ge 7, 3) := by decide +kernel
theorem dX10_does_374 : decode cX10_does 374 = .ok (.iconst 2, 1) := by decide +kernel
theorem dX10_does_375 : decode cX10_does 375 = .ok (.goto 4, 3) := by decide +kernel
theorem dX10_does_378 : decode cX10_does 378 = .ok (.iconst 0, 1) := by decide +kernel
theorem dX10_does_379 : decode cX10_does 379 = .ok (.putfield 102, 3) := by decide +kernel
theorem dX10_does_382 : decode cX10_does 382 = .ok (.aload_n 0, 1) := by decide +kernel
theorem dX10_does_383 : decode cX10_does 383 = .ok (.iload 6, 2) := by decide +kernel
theorem dX10_does_385 : decode cX10_does 385 = .ok (.putfield 105, 3) := by decide +kernel
theorem dX10_does_388 : decode cX10_does 388 = .ok (.iload 6, 2) := by decide +kernel
theorem dX10_does_390 : decode cX10_does 390 = .ok (.ifCond .lt 7, 3) := by decide +kernel
theorem dX10_does_393 : decode cX10_does 393 = .ok (.iconst 1, 1) := by decide +kernel
theorem dX10_does_394 : decode cX10_does 394 = .ok (.goto 4, 3) := by decide +kernel
theorem dX10_does_397 : decode cX10_does 397 = .ok (.iconst 0, 1) := by decide +kernel
theorem dX10_does_398 : decode cX10_does 398 = .ok (.ireturn, 1) := by decide +kernel
set_option maxRecDepth 20000 in
theorem ggX10_plays_X10_copies : GoodIn wsX10_plays wsX10_copies := goodIn_r _ [9, 10, 80, 81, 82, 83, 84, 85, 86, 87, 88] (by decide +kernel) (by decide +kernel)
set_option maxRecDepth 20000 in
theorem gX10_plays_X10_copies : GoodIn wsX10_plays (wsV RX10 21 RX10 yX10_copies wsX10_copies) := goodIn_app (goodIn_of _ (by decide +kernel)) ggX10_plays_X10_copies
set_option maxRecDepth 20000 in
theorem ggX10_plays_X10_does : GoodIn wsX10_plays wsX10_does := goodIn_r _ [14, 1, 15, 16, 3, 17, 18, 10, 19, 20, 21, 8, 22, 4, 23, 24, 25, 26, 27, 28, 29, 30, 31, 32, 33, 34, 35, 36, 37, 38, 39, 40, 41, 42, 43, 44, 45, 46, 47, 48, 49, 50, 51, 52, 53, 54, 55, 56, 57, 58, 59, 60, 61, 62, 63, 64, 65, 66, 67, 68, 69, 70, 71, 72, 73, 74, 75, 76, 77, 78, 79, 80, 81, 82, 83, 84, 85, 86, 87, 88] (by decide +kernel) (by decide +kernel)
set_option maxRecDepth 20000 in
theorem gX10_plays_X10_does : GoodIn wsX10_plays (wsV RX10 111 RX10 yX10_does wsX10_does) := goodIn_app (goodIn_of _ (by decide +kernel)) ggX10_plays_X10_does
theorem dX10_plays_0 : decode cX10_plays 0 = .ok (.aload_n 0, 1) := by decide +kernel
theorem dX10_plays_1 : decode cX10_plays 1 = .ok (.iconst 0, 1) := by decide +kernel
theorem dX10_plays_2 : decode cX10_plays 2 = .ok (.bipush 6, 2) := by decide +kernel
theorem dX10_plays_4 : decode cX10_plays 4 = .ok (.invokevirtual 21, 3) := by decide +kernel
theorem dX10_plays_7 : decode cX10_plays 7 = .ok (.aload_n 0, 1) := by decide +kernel
theorem dX10_plays_8 : decode cX10_plays 8 = .ok (.iconst 0, 1) := by decide +kernel
theorem dX10_plays_9 : decode cX10_plays 9 = .ok (.putfield 89, 3) := by decide +kernel
theorem dX10_plays_12 : decode cX10_plays 12 = .ok (.aload_n 0, 1) := by decide +kernel
theorem dX10_plays_13 : decode cX10_plays 13 = .ok (.iconst 0, 1) := by decide +kernel
theorem dX10_plays_14 : decode cX10_plays 14 = .ok (.putfield 108, 3) := by decide +kernel
theorem dX10_plays_17 : decode cX10_plays 17 = .ok (.aload_n 0, 1) := by decide +kernel
theorem dX10_plays_18 : decode cX10_plays 18 = .ok (.iconst 0, 1) := by decide +kernel
theorem dX10_plays_19 : decode cX10_plays 19 = .ok (.putfield 102, 3) := by decide +kernel
theorem dX10_plays_22 : decode cX10_plays 22 = .ok (.iconst 1, 1) := by decide +kernel
theorem dX10_plays_23 : decode cX10_plays 23 = .ok (.istore_n 1, 1) := by decide +kernel
theorem dX10_plays_24 : decode cX10_plays 24 = .ok (.iload_n 1, 1) := by decide +kernel
theorem dX10_plays_25 : decode cX10_plays 25 = .ok (.ifCond .eq 40, 3) := by decide +kernel
theorem dX10_plays_28 : decode cX10_plays 28 = .ok (.aload_n 0, 1) := by decide +kernel
theorem dX10_plays_29 : decode cX10_plays 29 = .ok (.getfield 89, 3) := by decide +kernel
theorem dX10_plays_32 : decode cX10_plays 32 = .ok (.aload_n 0, 1) := by decide +kernel
theorem dX10_plays_33 : decode cX10_plays 33 = .ok (.getfield 85, 3) := by decide +kernel
theorem dX10_plays_36 : decode cX10_plays 36 = .ok (.if_icmp .ge 29, 3) := by decide +kernel
theorem dX10_plays_39 : decode cX10_plays 39 = .ok (.aload_n 0, 1) := by decide +kernel
theorem dX10_plays_40 : decode cX10_plays 40 = .ok (.invokevirtual 111, 3) := by decide +kernel
theorem dX10_plays_43 : decode cX10_plays 43 = .ok (.istore_n 1, 1) := by decide +kernel
theorem dX10_plays_44 : decode cX10_plays 44 = .ok (.aload_n 0, 1) := by decide +kernel
theorem dX10_plays_45 : decode cX10_plays 45 = .ok (.dup, 1) := by decide +kernel
theorem dX10_plays_46 : decode cX10_plays 46 = .ok (.getfield 108, 3) := by decide +kernel
theorem dX10_plays_49 : decode cX10_plays 49 = .ok (.iload_n 1, 1) := by decide +kernel
theorem dX10_plays_50 : decode cX10_plays 50 = .ok (.ifCond .eq 7, 3) := by decide +kernel
theorem dX10_plays_53 : decode cX10_plays 53 = .ok (.iconst 1, 1) := by decide +kernel
theorem dX10_plays_54 : decode cX10_plays 54 = .ok (.goto 4, 3) := by decide +kernel
theorem dX10_plays_57 : decode cX10_plays 57 = .ok (.iconst 0, 1) := by decide +kernel
theorem dX10_plays_58 : decode cX10_plays 58 = .ok (.iadd, 1) := by decide +kernel
theorem dX10_plays_59 : decode cX10_plays 59 = .ok (.putfield 108, 3) := by decide +kernel
theorem dX10_plays_62 : decode cX10_plays 62 = .ok (.goto (-38), 3) := by decide +kernel
theorem dX10_plays_65 : decode cX10_plays 65 = .ok (.iload_n 1, 1) := by decide +kernel
theorem dX10_plays_66 : decode cX10_plays 66 = .ok (.ireturn, 1) := by decide +kernel
set_option maxRecDepth 20000 in
theorem ggX10_fault_X10_in : GoodIn wsX10_fault wsX10_in := goodIn_r _ [9] (by decide +kernel) (by decide +kernel)
set_option maxRecDepth 20000 in
theorem gX10_fault_X10_in : GoodIn wsX10_fault (va_wsS RX10 30 yX10_in wsX10_in) := goodIn_app (goodIn_of _ (by decide +kernel)) ggX10_fault_X10_in
set_option maxRecDepth 20000 in
theorem ggX10_fault_X10_plays : GoodIn wsX10_fault wsX10_plays := goodIn_r _ [13, 14, 15, 4, 16, 17, 18, 19, 8, 20, 21, 22, 23, 24, 25, 3, 26, 5, 1, 27, 28, 29, 30, 6, 7, 9, 31, 32, 33, 34, 35, 36, 37, 38, 39, 40, 41, 42, 43, 44, 45, 46, 47, 48, 49, 50, 51, 52, 53, 54, 55, 56, 57, 58, 59, 60, 61, 62, 63, 64, 65, 66, 67, 68, 69, 70, 71, 72, 73, 74, 75, 76, 77, 78, 79, 80, 81, 82, 83, 84, 85, 86, 87, 88, 89, 90, 91, 92, 93] (by decide +kernel) (by decide +kernel)
set_option maxRecDepth 20000 in
theorem gX10_fault_X10_plays : GoodIn wsX10_fault (wsV RX10 115 RX10 yX10_plays wsX10_plays) := goodIn_app (goodIn_of _ (by decide +kernel)) ggX10_fault_X10_plays
theorem dX10_fault_0 : decode cX10_fault 0 = .ok (.iload_n 1, 1) := by decide +kernel
theorem dX10_fault_1 : decode cX10_fault 1 = .ok (.iconst 0, 1) := by decide +kernel
theorem dX10_fault_2 : decode cX10_fault 2 = .ok (.iconst 2, 1) := by decide +kernel
theorem dX10_fault_3 : decode cX10_fault 3 = .ok (.invokestatic 30, 3) := by decide +kernel
theorem dX10_fault_6 : decode cX10_fault 6 = .ok (.ifCond .ne 6, 3) := by decide +kernel
theorem dX10_fault_9 : decode cX10_fault 9 = .ok (.ldc 59, 2) := by decide +kernel
theorem dX10_fault_11 : decode cX10_fault 11 = .ok (.ireturn, 1) := by decide +kernel
theorem dX10_fault_12 : decode cX10_fault 12 = .ok (.aload_n 0, 1) := by decide +kernel
theorem dX10_fault_13 : decode cX10_fault 13 = .ok (.invokevirtual 115, 3) := by decide +kernel
theorem dX10_fault_16 : decode cX10_fault 16 = .ok (.ifCond .eq 6, 3) := by decide +kernel
theorem dX10_fault_19 : decode cX10_fault 19 = .ok (.ldc 78, 2) := by decide +kernel
theorem dX10_fault_21 : decode cX10_fault 21 = .ok (.ireturn, 1) := by decide +kernel
theorem dX10_fault_22 : decode cX10_fault 22 = .ok (.iload_n 1, 1) := by decide +kernel
theorem dX10_fault_23 : decode cX10_fault 23 = .ok (.ifCond .ne 10, 3) := by decide +kernel
theorem dX10_fault_26 : decode cX10_fault 26 = .ok (.aload_n 0, 1) := by decide +kernel
theorem dX10_fault_27 : decode cX10_fault 27 = .ok (.getfield 92, 3) := by decide +kernel
theorem dX10_fault_30 : decode cX10_fault 30 = .ok (.goto 19, 3) := by decide +kernel
theorem dX10_fault_33 : decode cX10_fault 33 = .ok (.iload_n 1, 1) := by decide +kernel
theorem dX10_fault_34 : decode cX10_fault 34 = .ok (.iconst 1, 1) := by decide +kernel
theorem dX10_fault_35 : decode cX10_fault 35 = .ok (.if_icmp .ne 10, 3) := by decide +kernel
theorem dX10_fault_38 : decode cX10_fault 38 = .ok (.aload_n 0, 1) := by decide +kernel
theorem dX10_fault_39 : decode cX10_fault 39 = .ok (.getfield 102, 3) := by decide +kernel
theorem dX10_fault_42 : decode cX10_fault 42 = .ok (.goto 7, 3) := by decide +kernel
theorem dX10_fault_45 : decode cX10_fault 45 = .ok (.aload_n 0, 1) := by decide +kernel
theorem dX10_fault_46 : decode cX10_fault 46 = .ok (.getfield 105, 3) := by decide +kernel
theorem dX10_fault_49 : decode cX10_fault 49 = .ok (.ireturn, 1) := by decide +kernel
set_option maxRecDepth 20000 in
theorem ggX10_play_X10_plays : GoodIn wsX10_play wsX10_plays := goodIn_r _ [7, 8, 2, 9, 10, 11, 12, 13, 6, 14, 15, 16, 17, 18, 19, 20, 21, 22, 23, 24, 25, 26, 27, 28, 29, 30, 31, 32, 33, 34, 35, 36, 37, 38, 39, 40, 41, 42, 43, 44, 45, 46, 47, 48, 49, 50, 51, 52, 53, 54, 55, 56, 57, 58, 59, 60, 61, 62, 63, 64, 65, 66, 67, 68, 69, 70, 71, 72, 73, 74, 75, 76, 77, 78, 79, 1, 80, 81, 82, 83, 89, 90, 91, 92, 93, 94, 95, 96, 97] (by decide +kernel) (by decide +kernel)
set_option maxRecDepth 20000 in
theorem gX10_play_X10_plays : GoodIn wsX10_play (wsV RX10 115 RX10 yX10_plays wsX10_plays) := goodIn_app (goodIn_of _ (by decide +kernel)) ggX10_play_X10_plays
set_option maxRecDepth 20000 in
theorem ggX10_play_X10_records : GoodIn wsX10_play wsX10_records := goodIn_r _ [87, 88, 11, 12, 13, 6, 14, 15, 89, 90, 91, 92, 93, 94, 95, 96, 97] (by decide +kernel) (by decide +kernel)
set_option maxRecDepth 20000 in
theorem gX10_play_X10_records : GoodIn wsX10_play (wsV RX10 65 RX10 yX10_records wsX10_records) := goodIn_app (goodIn_of _ (by decide +kernel)) ggX10_play_X10_records
set_option maxRecDepth 20000 in
theorem ggX10_play_X10_copies : GoodIn wsX10_play wsX10_copies := goodIn_r _ [14, 15, 89, 90, 91, 92, 93, 94, 95, 96, 97] (by decide +kernel) (by decide +kernel)
set_option maxRecDepth 20000 in
theorem gX10_play_X10_copies : GoodIn wsX10_play (wsV RX10 21 RX10 yX10_copies wsX10_copies) := goodIn_app (goodIn_of _ (by decide +kernel)) ggX10_play_X10_copies
theorem dX10_play_0 : decode cX10_play 0 = .ok (.aload_n 0, 1) := by decide +kernel
theorem dX10_play_1 : decode cX10_play 1 = .ok (.invokevirtual 115, 3) := by decide +kernel
theorem dX10_play_4 : decode cX10_play 4 = .ok (.ifCond .ne 6, 3) := by decide +kernel
theorem dX10_play_7 : decode cX10_play 7 = .ok (.ldc 60, 2) := by decide +kernel
theorem dX10_play_9 : decode cX10_play 9 = .ok (.ireturn, 1) := by decide +kernel
theorem dX10_play_10 : decode cX10_play 10 = .ok (.aload_n 0, 1) := by decide +kernel
theorem dX10_play_11 : decode cX10_play 11 = .ok (.invokevirtual 65, 3) := by decide +kernel
theorem dX10_play_14 : decode cX10_play 14 = .ok (.aload_n 0, 1) := by decide +kernel
theorem dX10_play_15 : decode cX10_play 15 = .ok (.bipush 6, 2) := by decide +kernel
theorem dX10_play_17 : decode cX10_play 17 = .ok (.iconst 0, 1) := by decide +kernel
theorem dX10_play_18 : decode cX10_play 18 = .ok (.invokevirtual 21, 3) := by decide +kernel
theorem dX10_play_21 : decode cX10_play 21 = .ok (.aload_n 0, 1) := by decide +kernel
theorem dX10_play_22 : decode cX10_play 22 = .ok (.getfield 108, 3) := by decide +kernel
theorem dX10_play_25 : decode cX10_play 25 = .ok (.ireturn, 1) := by decide +kernel
theorem dJxf58ca_isNaN_12338_0 : decode cJxf58ca_isNaN_12338 0 = .ok (.fload_n 0, 1) := by decide +kernel
theorem dJxf58ca_isNaN_12338_1 : decode cJxf58ca_isNaN_12338 1 = .ok (.fload_n 0, 1) := by decide +kernel
theorem dJxf58ca_isNaN_12338_2 : decode cJxf58ca_isNaN_12338 2 = .ok (.fcmp .l, 1) := by decide +kernel
theorem dJxf58ca_isNaN_12338_3 : decode cJxf58ca_isNaN_12338 3 = .ok (.ifCond .eq 7, 3) := by decide +kernel
theorem dJxf58ca_isNaN_12338_6 : decode cJxf58ca_isNaN_12338 6 = .ok (.iconst 1, 1) := by decide +kernel
theorem dJxf58ca_isNaN_12338_7 : decode cJxf58ca_isNaN_12338 7 = .ok (.goto 4, 3) := by decide +kernel
theorem dJxf58ca_isNaN_12338_10 : decode cJxf58ca_isNaN_12338 10 = .ok (.iconst 0, 1) := by decide +kernel
theorem dJxf58ca_isNaN_12338_11 : decode cJxf58ca_isNaN_12338 11 = .ok (.ireturn, 1) := by decide +kernel
set_option maxRecDepth 20000 in
theorem ggJxf58ca_floatToIntBits_5c35a_Jxf58ca_isNaN_12338 : GoodIn wsJxf58ca_floatToIntBits_5c35a wsJxf58ca_isNaN_12338 := goodIn_r _ [9] (by decide +kernel) (by decide +kernel)
set_option maxRecDepth 20000 in
theorem gJxf58ca_floatToIntBits_5c35a_Jxf58ca_isNaN_12338 : GoodIn wsJxf58ca_floatToIntBits_5c35a (va_wsS RJxf58ca 59 yJxf58ca_isNaN_12338 wsJxf58ca_isNaN_12338) := goodIn_app (goodIn_of _ (by decide +kernel)) ggJxf58ca_floatToIntBits_5c35a_Jxf58ca_isNaN_12338
theorem dJxf58ca_floatToIntBits_5c35a_0 : decode cJxf58ca_floatToIntBits_5c35a 0 = .ok (.fload_n 0, 1) := by decide +kernel
theorem dJxf58ca_floatToIntBits_5c35a_1 : decode cJxf58ca_floatToIntBits_5c35a 1 = .ok (.invokestatic 59, 3) := by decide +kernel
theorem dJxf58ca_floatToIntBits_5c35a_4 : decode cJxf58ca_floatToIntBits_5c35a 4 = .ok (.ifCond .ne 8, 3) := by decide +kernel
theorem dJxf58ca_floatToIntBits_5c35a_7 : decode cJxf58ca_floatToIntBits_5c35a 7 = .ok (.fload_n 0, 1) := by decide +kernel
theorem dJxf58ca_floatToIntBits_5c35a_8 : decode cJxf58ca_floatToIntBits_5c35a 8 = .ok (.invokestatic 74, 3) := by decide +kernel
theorem dJxf58ca_floatToIntBits_5c35a_11 : decode cJxf58ca_floatToIntBits_5c35a 11 = .ok (.ireturn, 1) := by decide +kernel
theorem dJxf58ca_floatToIntBits_5c35a_12 : decode cJxf58ca_floatToIntBits_5c35a 12 = .ok (.ldc 77, 2) := by decide +kernel
theorem dJxf58ca_floatToIntBits_5c35a_14 : decode cJxf58ca_floatToIntBits_5c35a 14 = .ok (.ireturn, 1) := by decide +kernel
theorem dJ13_bitCount_95d88_0 : decode cJ13_bitCount_95d88 0 = .ok (.lload_n 0, 1) := by decide +kernel
theorem dJ13_bitCount_95d88_1 : decode cJ13_bitCount_95d88 1 = .ok (.lload_n 0, 1) := by decide +kernel
theorem dJ13_bitCount_95d88_2 : decode cJ13_bitCount_95d88 2 = .ok (.iconst 1, 1) := by decide +kernel
theorem dJ13_bitCount_95d88_3 : decode cJ13_bitCount_95d88 3 = .ok (.lushr, 1) := by decide +kernel
theorem dJ13_bitCount_95d88_4 : decode cJ13_bitCount_95d88 4 = .ok (.ldc2_w 314, 3) := by decide +kernel
theorem dJ13_bitCount_95d88_7 : decode cJ13_bitCount_95d88 7 = .ok (.land, 1) := by decide +kernel
theorem dJ13_bitCount_95d88_8 : decode cJ13_bitCount_95d88 8 = .ok (.lsub, 1) := by decide +kernel
theorem dJ13_bitCount_95d88_9 : decode cJ13_bitCount_95d88 9 = .ok (.lstore_n 0, 1) := by decide +kernel
theorem dJ13_bitCount_95d88_10 : decode cJ13_bitCount_95d88 10 = .ok (.lload_n 0, 1) := by decide +kernel
theorem dJ13_bitCount_95d88_11 : decode cJ13_bitCount_95d88 11 = .ok (.ldc2_w 316, 3) := by decide +kernel
theorem dJ13_bitCount_95d88_14 : decode cJ13_bitCount_95d88 14 = .ok (.land, 1) := by decide +kernel
theorem dJ13_bitCount_95d88_15 : decode cJ13_bitCount_95d88 15 = .ok (.lload_n 0, 1) := by decide +kernel
theorem dJ13_bitCount_95d88_16 : decode cJ13_bitCount_95d88 16 = .ok (.iconst 2, 1) := by decide +kernel
theorem dJ13_bitCount_95d88_17 : decode cJ13_bitCount_95d88 17 = .ok (.lushr, 1) := by decide +kernel
theorem dJ13_bitCount_95d88_18 : decode cJ13_bitCount_95d88 18 = .ok (.ldc2_w 316, 3) := by decide +kernel
theorem dJ13_bitCount_95d88_21 : decode cJ13_bitCount_95d88 21 = .ok (.land, 1) := by decide +kernel
theorem dJ13_bitCount_95d88_22 : decode cJ13_bitCount_95d88 22 = .ok (.ladd, 1) := by decide +kernel
theorem dJ13_bitCount_95d88_23 : decode cJ13_bitCount_95d88 23 = .ok (.lstore_n 0, 1) := by decide +kernel
theorem dJ13_bitCount_95d88_24 : decode cJ13_bitCount_95d88 24 = .ok (.lload_n 0, 1) := by decide +kernel
theorem dJ13_bitCount_95d88_25 : decode cJ13_bitCount_95d88 25 = .ok (.lload_n 0, 1) := by decide +kernel
theorem dJ13_bitCount_95d88_26 : decode cJ13_bitCount_95d88 26 = .ok (.iconst 4, 1) := by decide +kernel
theorem dJ13_bitCount_95d88_27 : decode cJ13_bitCount_95d88 27 = .ok (.lushr, 1) := by decide +kernel
theorem dJ13_bitCount_95d88_28 : decode cJ13_bitCount_95d88 28 = .ok (.ladd, 1) := by decide +kernel
theorem dJ13_bitCount_95d88_29 : decode cJ13_bitCount_95d88 29 = .ok (.ldc2_w 318, 3) := by decide +kernel
theorem dJ13_bitCount_95d88_32 : decode cJ13_bitCount_95d88 32 = .ok (.land, 1) := by decide +kernel
theorem dJ13_bitCount_95d88_33 : decode cJ13_bitCount_95d88 33 = .ok (.lstore_n 0, 1) := by decide +kernel
theorem dJ13_bitCount_95d88_34 : decode cJ13_bitCount_95d88 34 = .ok (.lload_n 0, 1) := by decide +kernel
theorem dJ13_bitCount_95d88_35 : decode cJ13_bitCount_95d88 35 = .ok (.lload_n 0, 1) := by decide +kernel
theorem dJ13_bitCount_95d88_36 : decode cJ13_bitCount_95d88 36 = .ok (.bipush 8, 2) := by decide +kernel
theorem dJ13_bitCount_95d88_38 : decode cJ13_bitCount_95d88 38 = .ok (.lushr, 1) := by decide +kernel
theorem dJ13_bitCount_95d88_39 : decode cJ13_bitCount_95d88 39 = .ok (.ladd, 1) := by decide +kernel
theorem dJ13_bitCount_95d88_40 : decode cJ13_bitCount_95d88 40 = .ok (.lstore_n 0, 1) := by decide +kernel
theorem dJ13_bitCount_95d88_41 : decode cJ13_bitCount_95d88 41 = .ok (.lload_n 0, 1) := by decide +kernel
theorem dJ13_bitCount_95d88_42 : decode cJ13_bitCount_95d88 42 = .ok (.lload_n 0, 1) := by decide +kernel
theorem dJ13_bitCount_95d88_43 : decode cJ13_bitCount_95d88 43 = .ok (.bipush 16, 2) := by decide +kernel
theorem dJ13_bitCount_95d88_45 : decode cJ13_bitCount_95d88 45 = .ok (.lushr, 1) := by decide +kernel
theorem dJ13_bitCount_95d88_46 : decode cJ13_bitCount_95d88 46 = .ok (.ladd, 1) := by decide +kernel
theorem dJ13_bitCount_95d88_47 : decode cJ13_bitCount_95d88 47 = .ok (.lstore_n 0, 1) := by decide +kernel
theorem dJ13_bitCount_95d88_48 : decode cJ13_bitCount_95d88 48 = .ok (.lload_n 0, 1) := by decide +kernel
theorem dJ13_bitCount_95d88_49 : decode cJ13_bitCount_95d88 49 = .ok (.lload_n 0, 1) := by decide +kernel
theorem dJ13_bitCount_95d88_50 : decode cJ13_bitCount_95d88 50 = .ok (.bipush 32, 2) := by decide +kernel
theorem dJ13_bitCount_95d88_52 : decode cJ13_bitCount_95d88 52 = .ok (.lushr, 1) := by decide +kernel
theorem dJ13_bitCount_95d88_53 : decode cJ13_bitCount_95d88 53 = .ok (.ladd, 1) := by decide +kernel
theorem dJ13_bitCount_95d88_54 : decode cJ13_bitCount_95d88 54 = .ok (.lstore_n 0, 1) := by decide +kernel
theorem dJ13_bitCount_95d88_55 : decode cJ13_bitCount_95d88 55 = .ok (.lload_n 0, 1) := by decide +kernel
theorem dJ13_bitCount_95d88_56 : decode cJ13_bitCount_95d88 56 = .ok (.l2i, 1) := by decide +kernel
theorem dJ13_bitCount_95d88_57 : decode cJ13_bitCount_95d88 57 = .ok (.bipush 127, 2) := by decide +kernel
theorem dJ13_bitCount_95d88_59 : decode cJ13_bitCount_95d88 59 = .ok (.iand, 1) := by decide +kernel
theorem dJ13_bitCount_95d88_60 : decode cJ13_bitCount_95d88 60 = .ok (.ireturn, 1) := by decide +kernel
theorem dJ9_abs_0f7a4_0 : decode cJ9_abs_0f7a4 0 = .ok (.iload_n 0, 1) := by decide +kernel
theorem dJ9_abs_0f7a4_1 : decode cJ9_abs_0f7a4 1 = .ok (.ifCond .ge 8, 3) := by decide +kernel
theorem dJ9_abs_0f7a4_4 : decode cJ9_abs_0f7a4 4 = .ok (.iload_n 0, 1) := by decide +kernel
theorem dJ9_abs_0f7a4_5 : decode cJ9_abs_0f7a4 5 = .ok (.ineg, 1) := by decide +kernel
theorem dJ9_abs_0f7a4_6 : decode cJ9_abs_0f7a4 6 = .ok (.goto 4, 3) := by decide +kernel
theorem dJ9_abs_0f7a4_9 : decode cJ9_abs_0f7a4 9 = .ok (.iload_n 0, 1) := by decide +kernel
theorem dJ9_abs_0f7a4_10 : decode cJ9_abs_0f7a4 10 = .ok (.ireturn, 1) := by decide +kernel
theorem dJ9_max_7cf53_0 : decode cJ9_max_7cf53 0 = .ok (.iload_n 0, 1) := by decide +kernel
theorem dJ9_max_7cf53_1 : decode cJ9_max_7cf53 1 = .ok (.iload_n 1, 1) := by decide +kernel
theorem dJ9_max_7cf53_2 : decode cJ9_max_7cf53 2 = .ok (.if_icmp .lt 7, 3) := by decide +kernel
theorem dJ9_max_7cf53_5 : decode cJ9_max_7cf53 5 = .ok (.iload_n 0, 1) := by decide +kernel
theorem dJ9_max_7cf53_6 : decode cJ9_max_7cf53 6 = .ok (.goto 4, 3) := by decide +kernel
theorem dJ9_max_7cf53_9 : decode cJ9_max_7cf53 9 = .ok (.iload_n 1, 1) := by decide +kernel
theorem dJ9_max_7cf53_10 : decode cJ9_max_7cf53 10 = .ok (.ireturn, 1) := by decide +kernel
theorem dJ9_min_7cf53_0 : decode cJ9_min_7cf53 0 = .ok (.iload_n 0, 1) := by decide +kernel
theorem dJ9_min_7cf53_1 : decode cJ9_min_7cf53 1 = .ok (.iload_n 1, 1) := by decide +kernel
theorem dJ9_min_7cf53_2 : decode cJ9_min_7cf53 2 = .ok (.if_icmp .gt 7, 3) := by decide +kernel
theorem dJ9_min_7cf53_5 : decode cJ9_min_7cf53 5 = .ok (.iload_n 0, 1) := by decide +kernel
theorem dJ9_min_7cf53_6 : decode cJ9_min_7cf53 6 = .ok (.goto 4, 3) := by decide +kernel
theorem dJ9_min_7cf53_9 : decode cJ9_min_7cf53 9 = .ok (.iload_n 1, 1) := by decide +kernel
theorem dJ9_min_7cf53_10 : decode cJ9_min_7cf53 10 = .ok (.ireturn, 1) := by decide +kernel
set_option maxRecDepth 20000 in
theorem ggL_law_X9_init : GoodIn wsL_law wsX9_init := goodIn_r _ [8, 9, 10, 11, 12, 13, 14, 15, 16, 17, 18, 19, 20, 21, 22, 23, 24, 25, 26, 27, 28, 29, 30, 31, 32, 33, 34, 35, 36, 37, 38, 39, 40, 41, 42, 43, 44, 45, 46, 47, 48, 49, 50, 51, 52, 53, 54, 55, 56, 57, 58, 59, 60, 61, 62, 63, 64, 65, 66, 67, 68, 69, 70, 71, 72, 73, 74, 75, 76, 77, 78, 79, 80, 81, 82, 83, 84, 85, 86, 87, 88, 89, 90, 91, 92, 93, 94, 95, 96, 97, 98, 99, 100, 101, 102, 103, 104, 105, 106, 107, 108, 109, 110, 111, 112, 113, 114, 115, 116, 117, 118, 119, 120, 121, 122, 123, 124, 125, 126, 704, 705, 706, 707, 708, 709, 710, 711, 712, 691, 692, 693, 694, 713, 714, 715, 716, 717, 718, 719, 720, 721, 722, 723, 724, 725, 726, 727, 728, 729, 730, 731, 732, 733, 734, 735, 736, 737, 738, 739, 740, 741, 742, 743, 744, 745, 746, 747, 748, 749, 750, 751, 752, 753] (by decide +kernel) (by decide +kernel)
set_option maxRecDepth 20000 in
theorem gL_law_X9_init : GoodIn wsL_law (wsX9_init) := ggL_law_X9_init
set_option maxRecDepth 20000 in
theorem ggL_law_X10_init : GoodIn wsL_law wsX10_init := goodIn_r _ [129, 130, 10, 11, 131, 132, 124, 133, 695, 696, 697, 698, 699, 700, 701, 702, 703] (by decide +kernel) (by decide +kernel)
set_option maxRecDepth 20000 in
theorem gL_law_X10_init : GoodIn wsL_law (wsX10_init) := ggL_law_X10_init
set_option maxRecDepth 20000 in
theorem ggL_law_X9_ring : GoodIn wsL_law wsX9_ring := goodIn_r _ [137, 16, 15, 138, 139, 140, 14, 141, 34, 35, 39, 43, 47, 48, 52, 29, 30, 142, 143, 144, 33, 145, 59, 57, 58, 146, 147, 148, 38, 149, 63, 64, 65, 66, 150, 151, 152, 42, 153, 70, 71, 72, 73, 74, 75, 76, 154, 155, 156, 46, 157, 80, 81, 158, 159, 160, 51, 161, 85, 86, 87, 88, 89, 90, 91, 92, 162, 163, 164, 165, 166, 167, 168, 169, 170, 2, 171, 172, 173, 174, 175, 176, 177, 178, 179, 20, 180, 181, 182, 19, 183, 102, 101, 100, 99, 97, 184, 691, 692, 693, 694, 704, 705, 706, 707, 708, 709, 710, 711, 712, 728, 729, 730, 731, 732, 733, 734, 735, 736, 737, 738, 739, 740, 741, 742, 743, 744, 745, 746, 747, 748, 749, 750, 751, 713, 714, 715, 716, 717] (by decide +kernel) (by decide +kernel)
set_option maxRecDepth 20000 in
theorem gL_law_X9_ring : GoodIn wsL_law (wsV RL 13 RX9 yX9_ring wsX9_ring) := goodIn_app (goodIn_of _ (by decide +kernel)) ggL_law_X9_ring
set_option maxRecDepth 20000 in
theorem ggL_law_X10_ring : GoodIn wsL_law wsX10_ring := goodIn_r _ [188, 189, 190, 191, 5, 192, 132, 193, 194, 195, 196, 197, 198, 199, 200, 201, 202, 203, 204, 205, 695, 696, 697, 698, 699, 700, 701, 702, 703] (by decide +kernel) (by decide +kernel)
set_option maxRecDepth 20000 in
theorem gL_law_X10_ring : GoodIn wsL_law (wsV RL 17 RX10 yX10_ring wsX10_ring) := goodIn_app (goodIn_of _ (by decide +kernel)) ggL_law_X10_ring
set_option maxRecDepth 20000 in
theorem ggL_law_X9_noise : GoodIn wsL_law wsX9_noise := goodIn_r _ [209, 16, 15, 138, 139, 140, 14, 141, 34, 35, 39, 43, 47, 48, 52, 29, 30, 142, 143, 144, 33, 145, 59, 57, 58, 146, 147, 148, 38, 149, 63, 64, 65, 66, 150, 151, 152, 42, 153, 70, 71, 72, 73, 74, 75, 76, 154, 155, 156, 46, 157, 80, 81, 158, 159, 160, 51, 161, 85, 86, 87, 88, 89, 90, 91, 92, 210, 211, 212, 213, 214, 166, 170, 2, 171, 176, 177, 178, 179, 20, 180, 181, 182, 19, 183, 102, 101, 100, 99, 97, 184, 691, 692, 693, 694, 704, 705, 706, 707, 708, 709, 710, 711, 712, 728, 729, 730, 731, 732, 733, 734, 735, 736, 737, 738, 739, 740, 741, 742, 743, 744, 745, 746, 747, 748, 749, 750, 751, 713, 714, 715, 716, 717] (by decide +kernel) (by decide +kernel)
set_option maxRecDepth 20000 in
theorem gL_law_X9_noise : GoodIn wsL_law (wsV RL 18 RX9 yX9_noise wsX9_noise) := goodIn_app (goodIn_of _ (by decide +kernel)) ggL_law_X9_noise
set_option maxRecDepth 20000 in
theorem ggL_law_X10_noise : GoodIn wsL_law wsX10_noise := goodIn_r _ [218, 219, 197, 132, 198, 199, 5, 200, 201, 202, 203, 204, 205, 189, 190, 191, 192, 695, 696, 697, 698, 699, 700, 701, 702, 703] (by decide +kernel) (by decide +kernel)
set_option maxRecDepth 20000 in
theorem gL_law_X10_noise : GoodIn wsL_law (wsV RL 22 RX10 yX10_noise wsX10_noise) := goodIn_app (goodIn_of _ (by decide +kernel)) ggL_law_X10_noise
set_option maxRecDepth 20000 in
theorem ggL_law_X9_sample : GoodIn wsL_law wsX9_sample := goodIn_r _ [223, 16, 15, 138, 139, 140, 14, 141, 34, 35, 39, 43, 47, 48, 52, 29, 30, 142, 143, 144, 33, 145, 59, 57, 58, 146, 147, 148, 38, 149, 63, 64, 65, 66, 150, 151, 152, 42, 153, 70, 71, 72, 73, 74, 75, 76, 154, 155, 156, 46, 157, 80, 81, 158, 159, 160, 51, 161, 85, 86, 87, 88, 89, 90, 91, 92, 224, 225, 226, 227, 166, 228, 170, 2, 171, 229, 230, 231, 232, 233, 234, 235, 236, 237, 238, 239, 240, 241, 242, 243, 244, 245, 246, 247, 248, 167, 249, 250, 251, 252, 253, 254, 255, 256, 257, 258, 259, 260, 261, 262, 263, 264, 265, 266, 267, 268, 269, 270, 271, 272, 273, 274, 275, 276, 277, 278, 279, 280, 281, 282, 283, 284, 285, 286, 287, 288, 289, 290, 291, 292, 293, 294, 295, 296, 297, 298, 299, 300, 301, 302, 303, 304, 305, 306, 307, 308, 309, 310, 176, 177, 178, 179, 20, 180, 181, 182, 19, 183, 102, 101, 100, 99, 97, 184, 691, 692, 693, 694, 704, 705, 706, 707, 708, 709, 710, 711, 712, 728, 729, 730, 731, 732, 733, 734, 735, 736, 737, 738, 739, 740, 741, 742, 743, 744, 745, 746, 747, 748, 749, 750, 751, 713, 714, 715, 716, 717] (by decide +kernel) (by decide +kernel)
set_option maxRecDepth 20000 in
theorem gL_law_X9_sample : GoodIn wsL_law (wsV RL 23 RX9 yX9_sample wsX9_sample) := goodIn_app (goodIn_of _ (by decide +kernel)) ggL_law_X9_sample
set_option maxRecDepth 20000 in
theorem ggL_law_X10_sample : GoodIn wsL_law wsX10_sample := goodIn_r _ [314, 197, 198, 199, 5, 200, 201, 202, 203, 204, 205, 189, 190, 191, 192, 132, 315, 316, 317, 318, 319, 320, 321, 322, 323, 324, 325, 326, 327, 328, 329, 330, 331, 332, 333, 334, 335, 336, 337, 338, 339, 340, 341, 342, 343, 344, 345, 346, 347, 348, 349, 350, 351, 695, 696, 697, 698, 699, 700, 701, 702, 703] (by decide +kernel) (by decide +kernel)
set_option maxRecDepth 20000 in
theorem gL_law_X10_sample : GoodIn wsL_law (wsV RL 26 RX10 yX10_sample wsX10_sample) := goodIn_app (goodIn_of _ (by decide +kernel)) ggL_law_X10_sample
set_option maxRecDepth 20000 in
theorem ggL_law_X9_draw : GoodIn wsL_law wsX9_draw := goodIn_r _ [355, 16, 15, 138, 139, 140, 14, 141, 34, 35, 39, 43, 47, 48, 52, 29, 30, 142, 143, 144, 33, 145, 59, 57, 58, 146, 147, 148, 38, 149, 63, 64, 65, 66, 150, 151, 152, 42, 153, 70, 71, 72, 73, 74, 75, 76, 154, 155, 156, 46, 157, 80, 81, 158, 159, 160, 51, 161, 85, 86, 87, 88, 89, 90, 91, 92, 356, 357, 358, 359, 166, 360, 268, 361, 362, 170, 2, 171, 363, 364, 365, 366, 176, 177, 178, 179, 20, 180, 181, 182, 19, 183, 102, 101, 100, 99, 97, 184, 691, 692, 693, 694, 704, 705, 706, 707, 708, 709, 710, 711, 712, 728, 729, 730, 731, 732, 733, 734, 735, 736, 737, 738, 739, 740, 741, 742, 743, 744, 745, 746, 747, 748, 749, 750, 751, 713, 714, 715, 716, 717] (by decide +kernel) (by decide +kernel)
set_option maxRecDepth 20000 in
theorem gL_law_X9_draw : GoodIn wsL_law (wsV RL 27 RX9 yX9_draw wsX9_draw) := goodIn_app (goodIn_of _ (by decide +kernel)) ggL_law_X9_draw
set_option maxRecDepth 20000 in
theorem ggL_law_X10_draw : GoodIn wsL_law wsX10_draw := goodIn_r _ [370, 189, 190, 191, 5, 192, 132, 371, 372, 373, 374, 197, 375, 198, 199, 200, 201, 202, 203, 204, 205, 695, 696, 697, 698, 699, 700, 701, 702, 703] (by decide +kernel) (by decide +kernel)
set_option maxRecDepth 20000 in
theorem gL_law_X10_draw : GoodIn wsL_law (wsV RL 30 RX10 yX10_draw wsX10_draw) := goodIn_app (goodIn_of _ (by decide +kernel)) ggL_law_X10_draw
set_option maxRecDepth 20000 in
theorem ggL_law_X9_restart : GoodIn wsL_law wsX9_restart := goodIn_r _ [379, 16, 15, 138, 139, 140, 14, 141, 34, 35, 39, 43, 47, 48, 52, 29, 30, 142, 143, 144, 33, 145, 59, 57, 58, 146, 147, 148, 38, 149, 63, 64, 65, 66, 150, 151, 152, 42, 153, 70, 71, 72, 73, 74, 75, 76, 154, 155, 156, 46, 157, 80, 81, 158, 159, 160, 51, 161, 85, 86, 87, 88, 89, 90, 91, 92, 380, 381, 382, 383, 360, 384, 385, 386, 387, 388, 389, 390, 391, 176, 177, 178, 2, 179, 20, 180, 181, 182, 19, 183, 102, 101, 100, 99, 97, 184, 691, 692, 693, 694, 704, 705, 706, 707, 708, 709, 710, 711, 712, 728, 729, 730, 731, 732, 733, 734, 735, 736, 737, 738, 739, 740, 741, 742, 743, 744, 745, 746, 747, 748, 749, 750, 751, 713, 714, 715, 716, 717] (by decide +kernel) (by decide +kernel)
set_option maxRecDepth 20000 in
theorem gL_law_X9_restart : GoodIn wsL_law (wsV RL 31 RX9 yX9_restart wsX9_restart) := goodIn_app (goodIn_of _ (by decide +kernel)) ggL_law_X9_restart
set_option maxRecDepth 20000 in
theorem ggL_law_X10_restart : GoodIn wsL_law wsX10_restart := goodIn_r _ [395, 201, 202, 203, 5, 204, 205, 189, 190, 191, 192, 132, 396, 397, 398, 399, 695, 696, 697, 698, 699, 700, 701, 702, 703] (by decide +kernel) (by decide +kernel)
set_option maxRecDepth 20000 in
theorem gL_law_X10_restart : GoodIn wsL_law (wsV RL 35 RX10 yX10_restart wsX10_restart) := goodIn_app (goodIn_of _ (by decide +kernel)) ggL_law_X10_restart
set_option maxRecDepth 20000 in
theorem ggL_law_X9_set : GoodIn wsL_law wsX9_set := goodIn_r _ [403, 16, 15, 404, 138, 139, 140, 14, 141, 34, 35, 39, 43, 47, 48, 52, 29, 30, 142, 143, 144, 33, 145, 59, 57, 58, 146, 147, 148, 38, 149, 63, 64, 65, 66, 150, 151, 152, 42, 153, 70, 71, 72, 73, 74, 75, 76, 154, 155, 156, 46, 157, 80, 81, 158, 159, 160, 51, 161, 85, 86, 87, 88, 89, 90, 91, 92, 405, 406, 407, 408, 409, 410, 411, 412, 170, 2, 171, 413, 414, 415, 416, 176, 177, 178, 179, 20, 180, 181, 182, 19, 183, 102, 101, 100, 99, 97, 184, 691, 692, 693, 694, 704, 705, 706, 707, 708, 709, 710, 711, 712, 728, 729, 730, 731, 732, 733, 734, 735, 736, 737, 738, 739, 740, 741, 742, 743, 744, 745, 746, 747, 748, 749, 750, 751, 713, 714, 715, 716, 717] (by decide +kernel) (by decide +kernel)
set_option maxRecDepth 20000 in
theorem gL_law_X9_set : GoodIn wsL_law (wsV RL 36 RX9 yX9_set wsX9_set) := goodIn_app (goodIn_of _ (by decide +kernel)) ggL_law_X9_set
set_option maxRecDepth 20000 in
theorem ggL_law_X10_set : GoodIn wsL_law wsX10_set := goodIn_r _ [420, 197, 132, 198, 199, 5, 200, 201, 202, 203, 204, 205, 189, 190, 191, 192, 695, 696, 697, 698, 699, 700, 701, 702, 703] (by decide +kernel) (by decide +kernel)
set_option maxRecDepth 20000 in
theorem gL_law_X10_set : GoodIn wsL_law (wsV RL 40 RX10 yX10_set wsX10_set) := goodIn_app (goodIn_of _ (by decide +kernel)) ggL_law_X10_set
set_option maxRecDepth 20000 in
theorem ggL_law_X9_ringOf : GoodIn wsL_law wsX9_ringOf := goodIn_r _ [424, 425, 15, 426, 170, 2, 171, 427, 173, 174, 14, 175, 34, 35, 428, 429, 430, 33, 431, 59, 57, 58, 432, 433, 259, 260, 261, 691, 692, 693, 694, 704, 705, 706, 707, 708, 709, 710, 711, 712, 728, 729, 730] (by decide +kernel) (by decide +kernel)
set_option maxRecDepth 20000 in
theorem gL_law_X9_ringOf : GoodIn wsL_law (wsV RL 41 RX9 yX9_ringOf wsX9_ringOf) := goodIn_app (goodIn_of _ (by decide +kernel)) ggL_law_X9_ringOf
set_option maxRecDepth 20000 in
theorem ggL_law_X10_ringOf : GoodIn wsL_law wsX10_ringOf := goodIn_r _ [437, 197, 132, 198, 199, 5, 200, 336, 337, 338, 339, 695, 696, 697, 698, 699, 700, 701, 702, 703] (by decide +kernel) (by decide +kernel)
set_option maxRecDepth 20000 in
theorem gL_law_X10_ringOf : GoodIn wsL_law (wsV RL 44 RX10 yX10_ringOf wsX10_ringOf) := goodIn_app (goodIn_of _ (by decide +kernel)) ggL_law_X10_ringOf
set_option maxRecDepth 20000 in
theorem ggL_law_X9_source : GoodIn wsL_law wsX9_source := goodIn_r _ [441, 15, 442, 443, 444, 14, 445, 43, 268, 446, 447, 448, 270, 449, 450, 48, 360, 30, 29, 166, 245, 246, 247, 248, 34, 167, 35, 249, 250, 251, 252, 39, 253, 691, 692, 693, 694, 704, 705, 706, 707, 708, 709, 710, 711, 712, 735, 736, 737, 738, 739, 740, 741, 742, 743, 728, 729, 730, 731, 732, 733, 734] (by decide +kernel) (by decide +kernel)
set_option maxRecDepth 20000 in
theorem gL_law_X9_source : GoodIn wsL_law (wsV RL 45 RX9 yX9_source wsX9_source) := goodIn_app (goodIn_of _ (by decide +kernel)) ggL_law_X9_source
set_option maxRecDepth 20000 in
theorem ggL_law_X10_source : GoodIn wsL_law wsX10_source := goodIn_r _ [454, 132, 455, 197, 332, 333, 334, 5, 335, 695, 696, 697, 698, 699, 700, 701, 702, 703] (by decide +kernel) (by decide +kernel)
set_option maxRecDepth 20000 in
theorem gL_law_X10_source : GoodIn wsL_law (wsV RL 48 RX10 yX10_source wsX10_source) := goodIn_app (goodIn_of _ (by decide +kernel)) ggL_law_X10_source
set_option maxRecDepth 20000 in
theorem ggL_law_X9_raw : GoodIn wsL_law wsX9_raw := goodIn_r _ [459, 425, 15, 460, 461, 462, 426, 170, 2, 171, 463, 464, 465, 46, 466, 80, 691, 692, 693, 694, 704, 705, 706, 707, 708, 709, 710, 711, 712, 742, 743] (by decide +kernel) (by decide +kernel)
set_option maxRecDepth 20000 in
theorem gL_law_X9_raw : GoodIn wsL_law (wsV RL 49 RX9 yX9_raw wsX9_raw) := goodIn_app (goodIn_of _ (by decide +kernel)) ggL_law_X9_raw
set_option maxRecDepth 20000 in
theorem ggL_law_X10_raw : GoodIn wsL_law wsX10_raw := goodIn_r _ [470, 197, 132, 455, 198, 199, 5, 200, 695, 696, 697, 698, 699, 700, 701, 702, 703] (by decide +kernel) (by decide +kernel)
set_option maxRecDepth 20000 in
theorem gL_law_X10_raw : GoodIn wsL_law (wsV RL 52 RX10 yX10_raw wsX10_raw) := goodIn_app (goodIn_of _ (by decide +kernel)) ggL_law_X10_raw
set_option maxRecDepth 20000 in
theorem ggL_law_X9_stored : GoodIn wsL_law wsX9_stored := goodIn_r _ [474, 425, 15, 475, 461, 462, 476, 477, 478, 46, 479, 81, 480, 464, 465, 466, 80, 691, 692, 693, 694, 704, 705, 706, 707, 708, 709, 710, 711, 712, 742, 743] (by decide +kernel) (by decide +kernel)
set_option maxRecDepth 20000 in
theorem gL_law_X9_stored : GoodIn wsL_law (wsV RL 53 RX9 yX9_stored wsX9_stored) := goodIn_app (goodIn_of _ (by decide +kernel)) ggL_law_X9_stored
set_option maxRecDepth 20000 in
theorem ggL_law_X10_stored : GoodIn wsL_law wsX10_stored := goodIn_r _ [484, 197, 132, 455, 695, 696, 697, 698, 699, 700, 701, 702, 703] (by decide +kernel) (by decide +kernel)
set_option maxRecDepth 20000 in
theorem gL_law_X10_stored : GoodIn wsL_law (wsV RL 56 RX10 yX10_stored wsX10_stored) := goodIn_app (goodIn_of _ (by decide +kernel)) ggL_law_X10_stored
set_option maxRecDepth 20000 in
theorem ggL_law_X9_would : GoodIn wsL_law wsX9_would := goodIn_r _ [488, 425, 16, 15, 475, 461, 489, 490, 491, 492, 426, 170, 2, 171, 138, 139, 140, 14, 141, 34, 35, 39, 43, 47, 48, 52, 29, 30, 142, 143, 144, 33, 145, 59, 57, 58, 146, 147, 148, 38, 149, 63, 64, 65, 66, 150, 151, 152, 42, 153, 70, 71, 72, 73, 74, 75, 76, 154, 155, 156, 46, 157, 80, 81, 158, 159, 160, 51, 161, 85, 86, 87, 88, 89, 90, 91, 92, 224, 225, 226, 227, 166, 228, 229, 230, 231, 232, 233, 234, 235, 236, 237, 238, 239, 240, 241, 242, 243, 244, 245, 246, 247, 248, 167, 249, 250, 251, 252, 253, 254, 255, 256, 257, 258, 259, 260, 261, 262, 263, 264, 265, 266, 267, 268, 269, 270, 271, 272, 273, 274, 275, 276, 277, 278, 279, 280, 281, 282, 283, 284, 285, 286, 287, 288, 289, 290, 291, 292, 293, 294, 295, 296, 297, 298, 299, 300, 301, 302, 303, 304, 305, 306, 307, 308, 309, 310, 691, 692, 693, 694, 704, 705, 706, 707, 708, 709, 710, 711, 712, 742, 743, 735, 736, 737, 738, 739, 740, 741, 744, 745, 746, 747, 748, 749, 750, 751, 728, 729, 730, 731, 732, 733, 734] (by decide +kernel) (by decide +kernel)
set_option maxRecDepth 20000 in
theorem gL_law_X9_would : GoodIn wsL_law (wsV RL 57 RX9 yX9_would wsX9_would) := goodIn_app (goodIn_of _ (by decide +kernel)) ggL_law_X9_would
set_option maxRecDepth 20000 in
theorem ggL_law_X10_would : GoodIn wsL_law wsX10_would := goodIn_r _ [496, 197, 132, 198, 199, 5, 200, 189, 190, 191, 192, 315, 316, 317, 318, 319, 320, 321, 322, 323, 324, 325, 326, 327, 328, 329, 330, 331, 332, 333, 334, 335, 336, 337, 338, 339, 340, 341, 342, 343, 344, 345, 346, 347, 348, 349, 350, 351, 695, 696, 697, 698, 699, 700, 701, 702, 703] (by decide +kernel) (by decide +kernel)
set_option maxRecDepth 20000 in
theorem gL_law_X10_would : GoodIn wsL_law (wsV RL 60 RX10 yX10_would wsX10_would) := goodIn_app (goodIn_of _ (by decide +kernel)) ggL_law_X10_would
set_option maxRecDepth 20000 in
theorem ggL_law_X9_takes : GoodIn wsL_law wsX9_takes := goodIn_r _ [500, 425, 16, 15, 475, 461, 462, 426, 170, 2, 171, 138, 139, 140, 14, 141, 34, 35, 39, 43, 47, 48, 52, 29, 30, 142, 143, 144, 33, 145, 59, 57, 58, 146, 147, 148, 38, 149, 63, 64, 65, 66, 150, 151, 152, 42, 153, 70, 71, 72, 73, 74, 75, 76, 154, 155, 156, 46, 157, 80, 81, 158, 159, 160, 51, 161, 85, 86, 87, 88, 89, 90, 91, 92, 224, 225, 226, 227, 166, 228, 229, 230, 231, 232, 233, 234, 235, 236, 237, 238, 239, 240, 241, 242, 243, 244, 245, 246, 247, 248, 167, 249, 250, 251, 252, 253, 254, 255, 256, 257, 258, 259, 260, 261, 262, 263, 264, 265, 266, 267, 268, 269, 270, 271, 272, 273, 274, 275, 276, 277, 278, 279, 280, 281, 282, 283, 284, 285, 286, 287, 288, 289, 290, 291, 292, 293, 294, 295, 296, 297, 298, 299, 300, 301, 302, 303, 304, 305, 306, 307, 308, 309, 310, 691, 692, 693, 694, 704, 705, 706, 707, 708, 709, 710, 711, 712, 742, 743, 728, 729, 730, 731, 732, 733, 734, 735, 736, 737, 738, 739, 740, 741, 744, 745, 746, 747, 748, 749, 750, 751] (by decide +kernel) (by decide +kernel)
set_option maxRecDepth 20000 in
theorem gL_law_X9_takes : GoodIn wsL_law (wsV RL 61 RX9 yX9_takes wsX9_takes) := goodIn_app (goodIn_of _ (by decide +kernel)) ggL_law_X9_takes
set_option maxRecDepth 20000 in
theorem ggL_law_X10_takes : GoodIn wsL_law wsX10_takes := goodIn_r _ [504, 197, 132, 455, 198, 199, 5, 200, 189, 190, 191, 192, 319, 320, 321, 322, 323, 324, 325, 326, 327, 328, 329, 330, 331, 332, 333, 334, 335, 336, 337, 338, 339, 340, 341, 342, 343, 344, 345, 346, 347, 348, 349, 350, 351, 695, 696, 697, 698, 699, 700, 701, 702, 703] (by decide +kernel) (by decide +kernel)
set_option maxRecDepth 20000 in
theorem gL_law_X10_takes : GoodIn wsL_law (wsV RL 64 RX10 yX10_takes wsX10_takes) := goodIn_app (goodIn_of _ (by decide +kernel)) ggL_law_X10_takes
set_option maxRecDepth 20000 in
theorem ggL_law_X9_bestPeriod : GoodIn wsL_law wsX9_bestPeriod := goodIn_r _ [508, 425, 426, 170, 2, 171, 509, 510, 511, 512, 16, 15, 513, 514, 475, 461, 138, 139, 140, 14, 141, 34, 35, 39, 43, 47, 48, 52, 29, 30, 142, 143, 144, 33, 145, 59, 57, 58, 146, 147, 148, 38, 149, 63, 64, 65, 66, 150, 151, 152, 42, 153, 70, 71, 72, 73, 74, 75, 76, 154, 155, 156, 46, 157, 80, 81, 158, 159, 160, 51, 161, 85, 86, 87, 88, 89, 90, 91, 92, 162, 163, 164, 165, 166, 167, 168, 169, 172, 173, 174, 175, 224, 225, 226, 227, 228, 229, 230, 231, 232, 233, 234, 235, 236, 237, 238, 239, 240, 241, 242, 243, 244, 245, 246, 247, 248, 249, 250, 251, 252, 253, 254, 255, 256, 257, 258, 259, 260, 261, 262, 263, 264, 265, 266, 267, 268, 269, 270, 271, 272, 273, 274, 275, 276, 277, 278, 279, 280, 281, 282, 283, 284, 285, 286, 287, 288, 289, 290, 291, 292, 293, 294, 295, 296, 297, 298, 299, 300, 301, 302, 303, 304, 305, 306, 307, 308, 309, 310, 691, 692, 693, 694, 704, 705, 706, 707, 708, 709, 710, 711, 712, 728, 729, 730, 742, 743, 731, 732, 733, 734, 735, 736, 737, 738, 739, 740, 741, 744, 745, 746, 747, 748, 749, 750, 751] (by decide +kernel) (by decide +kernel)
set_option maxRecDepth 20000 in
theorem gL_law_X9_bestPeriod : GoodIn wsL_law (wsV RL 65 RX9 yX9_bestPeriod wsX9_bestPeriod) := goodIn_app (goodIn_of _ (by decide +kernel)) ggL_law_X9_bestPeriod
set_option maxRecDepth 20000 in
theorem ggL_law_X10_bestPeriod : GoodIn wsL_law wsX10_bestPeriod := goodIn_r _ [518, 197, 132, 198, 199, 5, 200, 189, 190, 191, 192, 193, 194, 195, 196, 315, 316, 317, 318, 319, 320, 321, 322, 323, 324, 325, 326, 327, 328, 329, 330, 331, 332, 333, 334, 335, 336, 337, 338, 339, 340, 341, 342, 343, 344, 345, 346, 347, 348, 349, 350, 351, 695, 696, 697, 698, 699, 700, 701, 702, 703] (by decide +kernel) (by decide +kernel)
set_option maxRecDepth 20000 in
theorem gL_law_X10_bestPeriod : GoodIn wsL_law (wsV RL 68 RX10 yX10_bestPeriod wsX10_bestPeriod) := goodIn_app (goodIn_of _ (by decide +kernel)) ggL_law_X10_bestPeriod
set_option maxRecDepth 20000 in
theorem ggL_law_X9_share : GoodIn wsL_law wsX9_share := goodIn_r _ [522, 15, 460, 461, 462, 523, 524, 525, 46, 526, 80, 527, 528, 529, 530, 531, 532, 533, 534, 535, 2, 536, 537, 691, 692, 693, 694, 704, 705, 706, 707, 708, 709, 710, 711, 712, 742, 743] (by decide +kernel) (by decide +kernel)
set_option maxRecDepth 20000 in
theorem gL_law_X9_share : GoodIn wsL_law (wsV RL 69 RX9 yX9_share wsX9_share) := goodIn_app (goodIn_of _ (by decide +kernel)) ggL_law_X9_share
set_option maxRecDepth 20000 in
theorem ggL_law_X10_share : GoodIn wsL_law wsX10_share := goodIn_r _ [541, 132, 455, 542, 543, 544, 545, 546, 547, 548, 549, 550, 551, 552, 553, 695, 696, 697, 698, 699, 700, 701, 702, 703] (by decide +kernel) (by decide +kernel)
set_option maxRecDepth 20000 in
theorem gL_law_X10_share : GoodIn wsL_law (wsV RL 72 RX10 yX10_share wsX10_share) := goodIn_app (goodIn_of _ (by decide +kernel)) ggL_law_X10_share
set_option maxRecDepth 20000 in
theorem ggL_law_X9_count : GoodIn wsL_law wsX9_count := goodIn_r _ [557, 15, 404, 20, 558, 24, 559, 560, 491, 426, 170, 2, 171, 561, 414, 415, 38, 416, 63, 64, 65, 66, 409, 562, 563, 564, 51, 565, 85, 86, 87, 88, 89, 90, 91, 92, 566, 691, 692, 693, 694, 704, 705, 706, 707, 708, 709, 710, 711, 712, 713, 714, 715, 716, 717, 718, 719, 720, 721, 722, 723, 724, 725, 726, 727, 752, 753, 731, 732, 733, 734, 744, 745, 746, 747, 748, 749, 750, 751] (by decide +kernel) (by decide +kernel)
set_option maxRecDepth 20000 in
theorem gL_law_X9_count : GoodIn wsL_law (wsV RL 73 RX9 yX9_count wsX9_count) := goodIn_app (goodIn_of _ (by decide +kernel)) ggL_law_X9_count
set_option maxRecDepth 20000 in
theorem ggL_law_X10_count : GoodIn wsL_law wsX10_count := goodIn_r _ [570, 132, 205, 571, 197, 198, 199, 5, 200, 695, 696, 697, 698, 699, 700, 701, 702, 703] (by decide +kernel) (by decide +kernel)
set_option maxRecDepth 20000 in
theorem gL_law_X10_count : GoodIn wsL_law (wsV RL 76 RX10 yX10_count wsX10_count) := goodIn_app (goodIn_of _ (by decide +kernel)) ggL_law_X10_count
set_option maxRecDepth 20000 in
theorem ggL_law_X9_undo : GoodIn wsL_law wsX9_undo := goodIn_r _ [575, 20, 15, 576, 577, 578, 19, 579, 97, 580, 99, 100, 101, 102, 184, 139, 140, 14, 141, 34, 35, 39, 43, 47, 48, 52, 29, 30, 142, 143, 144, 33, 145, 59, 57, 58, 146, 147, 148, 38, 149, 63, 64, 65, 66, 150, 151, 152, 42, 153, 70, 71, 72, 73, 74, 75, 76, 154, 155, 156, 46, 157, 80, 81, 158, 159, 160, 51, 161, 85, 86, 87, 88, 89, 90, 91, 92, 691, 692, 693, 694, 713, 714, 715, 716, 717, 704, 705, 706, 707, 708, 709, 710, 711, 712, 728, 729, 730, 731, 732, 733, 734, 735, 736, 737, 738, 739, 740, 741, 742, 743, 744, 745, 746, 747, 748, 749, 750, 751] (by decide +kernel) (by decide +kernel)
set_option maxRecDepth 20000 in
theorem gL_law_X9_undo : GoodIn wsL_law (wsV RL 77 RX9 yX9_undo wsX9_undo) := goodIn_app (goodIn_of _ (by decide +kernel)) ggL_law_X9_undo
set_option maxRecDepth 20000 in
theorem ggL_law_X10_undo : GoodIn wsL_law wsX10_undo := goodIn_r _ [584, 205, 375, 189, 190, 191, 5, 192, 132, 695, 696, 697, 698, 699, 700, 701, 702, 703] (by decide +kernel) (by decide +kernel)
set_option maxRecDepth 20000 in
theorem gL_law_X10_undo : GoodIn wsL_law (wsV RL 80 RX10 yX10_undo wsX10_undo) := goodIn_app (goodIn_of _ (by decide +kernel)) ggL_law_X10_undo
set_option maxRecDepth 20000 in
theorem ggL_law_X9_type : GoodIn wsL_law wsX9_type := goodIn_r _ [588, 24, 559, 589, 590, 591, 119, 592, 593, 126, 125, 594, 170, 2, 171, 691, 692, 693, 694, 718, 719, 720, 721, 722, 723, 724, 725, 726, 727, 752, 753] (by decide +kernel) (by decide +kernel)
set_option maxRecDepth 20000 in
theorem gL_law_X9_type : GoodIn wsL_law (wsV RL 81 RX9 yX9_type wsX9_type) := goodIn_app (goodIn_of _ (by decide +kernel)) ggL_law_X9_type
set_option maxRecDepth 20000 in
theorem ggL_law_X10_type : GoodIn wsL_law wsX10_type := goodIn_r _ [598, 197, 571, 599, 133, 198, 199, 5, 200, 695, 696, 697, 698, 699, 700, 701, 702, 703] (by decide +kernel) (by decide +kernel)
set_option maxRecDepth 20000 in
theorem gL_law_X10_type : GoodIn wsL_law (wsV RL 84 RX10 yX10_type wsX10_type) := goodIn_app (goodIn_of _ (by decide +kernel)) ggL_law_X10_type
set_option maxRecDepth 20000 in
theorem ggL_law_X9_clearText : GoodIn wsL_law wsX9_clearText := goodIn_r _ [603, 24, 559, 604, 605, 606, 119, 607, 126, 691, 692, 693, 694, 718, 719, 720, 721, 722, 723, 724, 725, 726, 727, 752, 753] (by decide +kernel) (by decide +kernel)
set_option maxRecDepth 20000 in
theorem gL_law_X9_clearText : GoodIn wsL_law (wsV RL 85 RX9 yX9_clearText wsX9_clearText) := goodIn_app (goodIn_of _ (by decide +kernel)) ggL_law_X9_clearText
set_option maxRecDepth 20000 in
theorem ggL_law_X10_clearText : GoodIn wsL_law wsX10_clearText := goodIn_r _ [611, 571, 695, 696, 697, 698, 699, 700, 701, 702, 703] (by decide +kernel) (by decide +kernel)
set_option maxRecDepth 20000 in
theorem gL_law_X10_clearText : GoodIn wsL_law (wsV RL 88 RX10 yX10_clearText wsX10_clearText) := goodIn_app (goodIn_of _ (by decide +kernel)) ggL_law_X10_clearText
set_option maxRecDepth 20000 in
theorem ggL_law_X9_fault : GoodIn wsL_law wsX9_fault := goodIn_r _ [615, 425, 16, 15, 24, 462, 616, 617, 618, 426, 170, 2, 171, 138, 139, 140, 14, 141, 34, 35, 39, 43, 47, 48, 52, 29, 30, 142, 143, 144, 33, 145, 59, 57, 58, 146, 147, 148, 38, 149, 63, 64, 65, 66, 150, 151, 152, 42, 153, 70, 71, 72, 73, 74, 75, 76, 154, 155, 156, 46, 157, 80, 81, 158, 159, 160, 51, 161, 85, 86, 87, 88, 89, 90, 91, 92, 619, 620, 621, 23, 622, 109, 110, 120, 623, 108, 111, 112, 624, 625, 626, 627, 113, 628, 629, 630, 119, 631, 126, 125, 632, 633, 251, 634, 635, 636, 637, 638, 639, 640, 641, 642, 114, 643, 644, 645, 646, 115, 116, 647, 648, 649, 650, 651, 163, 164, 165, 166, 167, 168, 169, 172, 173, 174, 175, 652, 225, 226, 227, 228, 229, 230, 231, 232, 233, 234, 235, 236, 237, 238, 239, 240, 241, 242, 243, 244, 245, 246, 247, 248, 249, 250, 252, 253, 254, 255, 256, 257, 258, 259, 260, 261, 262, 263, 264, 265, 266, 267, 268, 269, 270, 271, 272, 273, 274, 275, 276, 277, 278, 279, 280, 281, 282, 283, 284, 285, 286, 287, 288, 289, 290, 291, 292, 293, 294, 295, 296, 297, 298, 299, 300, 301, 302, 303, 304, 305, 306, 307, 308, 309, 310, 653, 357, 358, 359, 360, 361, 362, 363, 364, 365, 366, 654, 381, 382, 383, 384, 385, 386, 387, 388, 389, 390, 391, 655, 211, 212, 213, 214, 691, 692, 693, 694, 718, 719, 720, 721, 722, 723, 724, 725, 726, 727, 704, 705, 706, 707, 708, 709, 710, 711, 712, 728, 729, 730, 731, 732, 733, 734, 735, 736, 737, 738, 739, 740, 741, 742, 743, 744, 745, 746, 747, 748, 749, 750, 751, 752, 753] (by decide +kernel) (by decide +kernel)
set_option maxRecDepth 20000 in
theorem gL_law_X9_fault : GoodIn wsL_law (wsV RL 89 RX9 yX9_fault wsX9_fault) := goodIn_app (goodIn_of _ (by decide +kernel)) ggL_law_X9_fault
set_option maxRecDepth 20000 in
theorem ggL_law_X10_fault : GoodIn wsL_law wsX10_fault := goodIn_r _ [659, 197, 455, 660, 661, 662, 198, 199, 5, 200, 663, 664, 665, 666, 667, 668, 571, 189, 190, 191, 192, 132, 669, 670, 671, 672, 133, 673, 674, 675, 676, 677, 678, 679, 680, 193, 194, 195, 196, 315, 316, 317, 318, 319, 320, 321, 322, 323, 324, 325, 326, 327, 328, 329, 330, 331, 332, 333, 334, 335, 336, 337, 338, 339, 340, 341, 342, 343, 344, 345, 346, 347, 348, 349, 350, 351, 371, 372, 373, 374, 375, 396, 397, 398, 399, 695, 696, 697, 698, 699, 700, 701, 702, 703] (by decide +kernel) (by decide +kernel)
set_option maxRecDepth 20000 in
theorem gL_law_X10_fault : GoodIn wsL_law (wsV RL 92 RX10 yX10_fault wsX10_fault) := goodIn_app (goodIn_of _ (by decide +kernel)) ggL_law_X10_fault
set_option maxRecDepth 20000 in
theorem ggL_law_X9_play : GoodIn wsL_law wsX9_play := goodIn_r _ [684, 16, 15, 24, 685, 686, 138, 139, 140, 14, 141, 34, 35, 39, 43, 47, 48, 52, 29, 30, 142, 143, 144, 33, 145, 59, 57, 58, 146, 147, 148, 38, 149, 63, 64, 65, 66, 150, 151, 152, 42, 153, 70, 71, 72, 73, 74, 75, 76, 154, 155, 156, 46, 157, 80, 81, 158, 159, 160, 51, 161, 85, 86, 87, 88, 89, 90, 91, 92, 619, 620, 621, 23, 622, 109, 110, 120, 623, 108, 111, 112, 624, 625, 626, 627, 113, 628, 629, 630, 119, 631, 126, 125, 632, 633, 251, 634, 170, 2, 171, 635, 636, 637, 638, 639, 640, 641, 642, 114, 643, 644, 645, 646, 115, 116, 647, 648, 649, 650, 651, 163, 164, 165, 166, 167, 168, 169, 172, 173, 174, 175, 652, 225, 226, 227, 228, 229, 230, 231, 232, 233, 234, 235, 236, 237, 238, 239, 240, 241, 242, 243, 244, 245, 246, 247, 248, 249, 250, 252, 253, 254, 255, 256, 257, 258, 259, 260, 261, 262, 263, 264, 265, 266, 267, 268, 269, 270, 271, 272, 273, 274, 275, 276, 277, 278, 279, 280, 281, 282, 283, 284, 285, 286, 287, 288, 289, 290, 291, 292, 293, 294, 295, 296, 297, 298, 299, 300, 301, 302, 303, 304, 305, 306, 307, 308, 309, 310, 653, 357, 358, 359, 360, 361, 362, 363, 364, 365, 366, 654, 381, 382, 383, 384, 385, 386, 387, 388, 389, 390, 391, 655, 211, 212, 213, 214, 176, 177, 178, 179, 20, 180, 181, 182, 19, 183, 102, 101, 100, 99, 97, 184, 691, 692, 693, 694, 718, 719, 720, 721, 722, 723, 724, 725, 726, 727, 704, 705, 706, 707, 708, 709, 710, 711, 712, 728, 729, 730, 731, 732, 733, 734, 735, 736, 737, 738, 739, 740, 741, 742, 743, 744, 745, 746, 747, 748, 749, 750, 751, 752, 753, 713, 714, 715, 716, 717] (by decide +kernel) (by decide +kernel)
set_option maxRecDepth 20000 in
theorem gL_law_X9_play : GoodIn wsL_law (wsV RL 93 RX9 yX9_play wsX9_play) := goodIn_app (goodIn_of _ (by decide +kernel)) ggL_law_X9_play
set_option maxRecDepth 20000 in
theorem ggL_law_X10_play : GoodIn wsL_law wsX10_play := goodIn_r _ [690, 375, 668, 663, 664, 665, 5, 666, 667, 661, 571, 189, 190, 191, 192, 132, 669, 670, 671, 672, 660, 133, 662, 197, 673, 674, 675, 676, 198, 199, 200, 677, 678, 679, 680, 193, 194, 195, 196, 315, 316, 317, 318, 319, 320, 321, 322, 323, 324, 325, 326, 327, 328, 329, 330, 331, 332, 333, 334, 335, 336, 337, 338, 339, 340, 341, 342, 343, 344, 345, 346, 347, 348, 349, 350, 351, 371, 372, 373, 374, 396, 397, 398, 399, 201, 202, 203, 204, 205, 695, 696, 697, 698, 699, 700, 701, 702, 703] (by decide +kernel) (by decide +kernel)
set_option maxRecDepth 20000 in
theorem gL_law_X10_play : GoodIn wsL_law (wsV RL 96 RX10 yX10_play wsX10_play) := goodIn_app (goodIn_of _ (by decide +kernel)) ggL_law_X10_play
theorem dL_law_0 : decode cL_law 0 = .ok (.new 7, 3) := by decide +kernel
theorem dL_law_3 : decode cL_law 3 = .ok (.dup, 1) := by decide +kernel
theorem dL_law_4 : decode cL_law 4 = .ok (.invokespecial 9, 3) := by decide +kernel
theorem dL_law_7 : decode cL_law 7 = .ok (.astore_n 1, 1) := by decide +kernel
theorem dL_law_8 : decode cL_law 8 = .ok (.new 10, 3) := by decide +kernel
theorem dL_law_11 : decode cL_law 11 = .ok (.dup, 1) := by decide +kernel
theorem dL_law_12 : decode cL_law 12 = .ok (.invokespecial 12, 3) := by decide +kernel
theorem dL_law_15 : decode cL_law 15 = .ok (.astore_n 2, 1) := by decide +kernel
theorem dL_law_16 : decode cL_law 16 = .ok (.iconst 0, 1) := by decide +kernel
theorem dL_law_17 : decode cL_law 17 = .ok (.istore_n 3, 1) := by decide +kernel
theorem dL_law_18 : decode cL_law 18 = .ok (.iload_n 3, 1) := by decide +kernel
theorem dL_law_19 : decode cL_law 19 = .ok (.aload_n 0, 1) := by decide +kernel
theorem dL_law_20 : decode cL_law 20 = .ok (.arraylength, 1) := by decide +kernel
theorem dL_law_21 : decode cL_law 21 = .ok (.iconst 4, 1) := by decide +kernel
theorem dL_law_22 : decode cL_law 22 = .ok (.isub, 1) := by decide +kernel
theorem dL_law_23 : decode cL_law 23 = .ok (.if_icmp .gt 571, 3) := by decide +kernel
theorem dL_law_26 : decode cL_law 26 = .ok (.aload_n 0, 1) := by decide +kernel
theorem dL_law_27 : decode cL_law 27 = .ok (.iload_n 3, 1) := by decide +kernel
theorem dL_law_28 : decode cL_law 28 = .ok (.iaload, 1) := by decide +kernel
theorem dL_law_29 : decode cL_law 29 = .ok (.bipush 31, 2) := by decide +kernel
theorem dL_law_31 : decode cL_law 31 = .ok (.iand, 1) := by decide +kernel
theorem dL_law_32 : decode cL_law 32 = .ok (.tableswitch 556 0 19 #[96, 139, 162, 185, 208, 221, 254, 287, 310, 333, 356, 389, 412, 435, 448, 471, 484, 507, 520, 543], 96) := by decide +kernel
theorem dL_law_128 : decode cL_law 128 = .ok (.aload_n 1, 1) := by decide +kernel
theorem dL_law_129 : decode cL_law 129 = .ok (.aload_n 0, 1) := by decide +kernel
theorem dL_law_130 : decode cL_law 130 = .ok (.iload_n 3, 1) := by decide +kernel
theorem dL_law_131 : decode cL_law 131 = .ok (.iconst 1, 1) := by decide +kernel
theorem dL_law_132 : decode cL_law 132 = .ok (.iadd, 1) := by decide +kernel
theorem dL_law_133 : decode cL_law 133 = .ok (.iaload, 1) := by decide +kernel
theorem dL_law_134 : decode cL_law 134 = .ok (.aload_n 0, 1) := by decide +kernel
theorem dL_law_135 : decode cL_law 135 = .ok (.iload_n 3, 1) := by decide +kernel
theorem dL_law_136 : decode cL_law 136 = .ok (.iconst 2, 1) := by decide +kernel
theorem dL_law_137 : decode cL_law 137 = .ok (.iadd, 1) := by decide +kernel
theorem dL_law_138 : decode cL_law 138 = .ok (.iaload, 1) := by decide +kernel
theorem dL_law_139 : decode cL_law 139 = .ok (.aload_n 0, 1) := by decide +kernel
theorem dL_law_140 : decode cL_law 140 = .ok (.iload_n 3, 1) := by decide +kernel
theorem dL_law_141 : decode cL_law 141 = .ok (.iconst 3, 1) := by decide +kernel
theorem dL_law_142 : decode cL_law 142 = .ok (.iadd, 1) := by decide +kernel
theorem dL_law_143 : decode cL_law 143 = .ok (.iaload, 1) := by decide +kernel
theorem dL_law_144 : decode cL_law 144 = .ok (.invokevirtual 13, 3) := by decide +kernel
theorem dL_law_147 : decode cL_law 147 = .ok (.aload_n 2, 1) := by decide +kernel
theorem dL_law_148 : decode cL_law 148 = .ok (.aload_n 0, 1) := by decide +kernel
theorem dL_law_149 : decode cL_law 149 = .ok (.iload_n 3, 1) := by decide +kernel
theorem dL_law_150 : decode cL_law 150 = .ok (.iconst 1, 1) := by decide +kernel
theorem dL_law_151 : decode cL_law 151 = .ok (.iadd, 1) := by decide +kernel
theorem dL_law_152 : decode cL_law 152 = .ok (.iaload, 1) := by decide +kernel
theorem dL_law_153 : decode cL_law 153 = .ok (.aload_n 0, 1) := by decide +kernel
theorem dL_law_154 : decode cL_law 154 = .ok (.iload_n 3, 1) := by decide +kernel
theorem dL_law_155 : decode cL_law 155 = .ok (.iconst 2, 1) := by decide +kernel
theorem dL_law_156 : decode cL_law 156 = .ok (.iadd, 1) := by decide +kernel
theorem dL_law_157 : decode cL_law 157 = .ok (.iaload, 1) := by decide +kernel
theorem dL_law_158 : decode cL_law 158 = .ok (.aload_n 0, 1) := by decide +kernel
theorem dL_law_159 : decode cL_law 159 = .ok (.iload_n 3, 1) := by decide +kernel
theorem dL_law_160 : decode cL_law 160 = .ok (.iconst 3, 1) := by decide +kernel
theorem dL_law_161 : decode cL_law 161 = .ok (.iadd, 1) := by decide +kernel
theorem dL_law_162 : decode cL_law 162 = .ok (.iaload, 1) := by decide +kernel
theorem dL_law_163 : decode cL_law 163 = .ok (.invokevirtual 17, 3) := by decide +kernel
theorem dL_law_166 : decode cL_law 166 = .ok (.if_icmp .eq 422, 3) := by decide +kernel
theorem dL_law_169 : decode cL_law 169 = .ok (.iconst 0, 1) := by decide +kernel
theorem dL_law_170 : decode cL_law 170 = .ok (.ireturn, 1) := by decide +kernel
theorem dL_law_171 : decode cL_law 171 = .ok (.aload_n 1, 1) := by decide +kernel
theorem dL_law_172 : decode cL_law 172 = .ok (.aload_n 0, 1) := by decide +kernel
theorem dL_law_173 : decode cL_law 173 = .ok (.iload_n 3, 1) := by decide +kernel
theorem dL_law_174 : decode cL_law 174 = .ok (.iconst 1, 1) := by decide +kernel
theorem dL_law_175 : decode cL_law 175 = .ok (.iadd, 1) := by decide +kernel
theorem dL_law_176 : decode cL_law 176 = .ok (.iaload, 1) := by decide +kernel
theorem dL_law_177 : decode cL_law 177 = .ok (.invokevirtual 18, 3) := by decide +kernel
theorem dL_law_180 : decode cL_law 180 = .ok (.aload_n 2, 1) := by decide +kernel
theorem dL_law_181 : decode cL_law 181 = .ok (.aload_n 0, 1) := by decide +kernel
theorem dL_law_182 : decode cL_law 182 = .ok (.iload_n 3, 1) := by decide +kernel
theorem dL_law_183 : decode cL_law 183 = .ok (.iconst 1, 1) := by decide +kernel
theorem dL_law_184 : decode cL_law 184 = .ok (.iadd, 1) := by decide +kernel
theorem dL_law_185 : decode cL_law 185 = .ok (.iaload, 1) := by decide +kernel
theorem dL_law_186 : decode cL_law 186 = .ok (.invokevirtual 22, 3) := by decide +kernel
theorem dL_law_189 : decode cL_law 189 = .ok (.if_icmp .eq 399, 3) := by decide +kernel
theorem dL_law_192 : decode cL_law 192 = .ok (.iconst 0, 1) := by decide +kernel
theorem dL_law_193 : decode cL_law 193 = .ok (.ireturn, 1) := by decide +kernel
theorem dL_law_194 : decode cL_law 194 = .ok (.aload_n 1, 1) := by decide +kernel
theorem dL_law_195 : decode cL_law 195 = .ok (.aload_n 0, 1) := by decide +kernel
theorem dL_law_196 : decode cL_law 196 = .ok (.iload_n 3, 1) := by decide +kernel
theorem dL_law_197 : decode cL_law 197 = .ok (.iconst 1, 1) := by decide +kernel
theorem dL_law_198 : decode cL_law 198 = .ok (.iadd, 1) := by decide +kernel
theorem dL_law_199 : decode cL_law 199 = .ok (.iaload, 1) := by decide +kernel
theorem dL_law_200 : decode cL_law 200 = .ok (.invokevirtual 23, 3) := by decide +kernel
theorem dL_law_203 : decode cL_law 203 = .ok (.aload_n 2, 1) := by decide +kernel
theorem dL_law_204 : decode cL_law 204 = .ok (.aload_n 0, 1) := by decide +kernel
theorem dL_law_205 : decode cL_law 205 = .ok (.iload_n 3, 1) := by decide +kernel
theorem dL_law_206 : decode cL_law 206 = .ok (.iconst 1, 1) := by decide +kernel
theorem dL_law_207 : decode cL_law 207 = .ok (.iadd, 1) := by decide +kernel
theorem dL_law_208 : decode cL_law 208 = .ok (.iaload, 1) := by decide +kernel
theorem dL_law_209 : decode cL_law 209 = .ok (.invokevirtual 26, 3) := by decide +kernel
theorem dL_law_212 : decode cL_law 212 = .ok (.if_icmp .eq 376, 3) := by decide +kernel
theorem dL_law_215 : decode cL_law 215 = .ok (.iconst 0, 1) := by decide +kernel
theorem dL_law_216 : decode cL_law 216 = .ok (.ireturn, 1) := by decide +kernel
theorem dL_law_217 : decode cL_law 217 = .ok (.aload_n 1, 1) := by decide +kernel
theorem dL_law_218 : decode cL_law 218 = .ok (.aload_n 0, 1) := by decide +kernel
theorem dL_law_219 : decode cL_law 219 = .ok (.iload_n 3, 1) := by decide +kernel
theorem dL_law_220 : decode cL_law 220 = .ok (.iconst 1, 1) := by decide +kernel
theorem dL_law_221 : decode cL_law 221 = .ok (.iadd, 1) := by decide +kernel
theorem dL_law_222 : decode cL_law 222 = .ok (.iaload, 1) := by decide +kernel
theorem dL_law_223 : decode cL_law 223 = .ok (.invokevirtual 27, 3) := by decide +kernel
theorem dL_law_226 : decode cL_law 226 = .ok (.aload_n 2, 1) := by decide +kernel
theorem dL_law_227 : decode cL_law 227 = .ok (.aload_n 0, 1) := by decide +kernel
theorem dL_law_228 : decode cL_law 228 = .ok (.iload_n 3, 1) := by decide +kernel
theorem dL_law_229 : decode cL_law 229 = .ok (.iconst 1, 1) := by decide +kernel
theorem dL_law_230 : decode cL_law 230 = .ok (.iadd, 1) := by decide +kernel
theorem dL_law_231 : decode cL_law 231 = .ok (.iaload, 1) := by decide +kernel
theorem dL_law_232 : decode cL_law 232 = .ok (.invokevirtual 30, 3) := by decide +kernel
theorem dL_law_235 : decode cL_law 235 = .ok (.if_icmp .eq 353, 3) := by decide +kernel
theorem dL_law_238 : decode cL_law 238 = .ok (.iconst 0, 1) := by decide +kernel
theorem dL_law_239 : decode cL_law 239 = .ok (.ireturn, 1) := by decide +kernel
theorem dL_law_240 : decode cL_law 240 = .ok (.aload_n 1, 1) := by decide +kernel
theorem dL_law_241 : decode cL_law 241 = .ok (.invokevirtual 31, 3) := by decide +kernel
theorem dL_law_244 : decode cL_law 244 = .ok (.aload_n 2, 1) := by decide +kernel
theorem dL_law_245 : decode cL_law 245 = .ok (.invokevirtual 35, 3) := by decide +kernel
theorem dL_law_248 : decode cL_law 248 = .ok (.if_icmp .eq 340, 3) := by decide +kernel
theorem dL_law_251 : decode cL_law 251 = .ok (.iconst 0, 1) := by decide +kernel
theorem dL_law_252 : decode cL_law 252 = .ok (.ireturn, 1) := by decide +kernel
theorem dL_law_253 : decode cL_law 253 = .ok (.aload_n 1, 1) := by decide +kernel
theorem dL_law_254 : decode cL_law 254 = .ok (.aload_n 0, 1) := by decide +kernel
theorem dL_law_255 : decode cL_law 255 = .ok (.iload_n 3, 1) := by decide +kernel
theorem dL_law_256 : decode cL_law 256 = .ok (.iconst 1, 1) := by decide +kernel
theorem dL_law_257 : decode cL_law 257 = .ok (.iadd, 1) := by decide +kernel
theorem dL_law_258 : decode cL_law 258 = .ok (.iaload, 1) := by decide +kernel
theorem dL_law_259 : decode cL_law 259 = .ok (.aload_n 0, 1) := by decide +kernel
theorem dL_law_260 : decode cL_law 260 = .ok (.iload_n 3, 1) := by decide +kernel
theorem dL_law_261 : decode cL_law 261 = .ok (.iconst 2, 1) := by decide +kernel
theorem dL_law_262 : decode cL_law 262 = .ok (.iadd, 1) := by decide +kernel
theorem dL_law_263 : decode cL_law 263 = .ok (.iaload, 1) := by decide +kernel
theorem dL_law_264 : decode cL_law 264 = .ok (.invokevirtual 36, 3) := by decide +kernel
theorem dL_law_267 : decode cL_law 267 = .ok (.aload_n 2, 1) := by decide +kernel
theorem dL_law_268 : decode cL_law 268 = .ok (.aload_n 0, 1) := by decide +kernel
theorem dL_law_269 : decode cL_law 269 = .ok (.iload_n 3, 1) := by decide +kernel
theorem dL_law_270 : decode cL_law 270 = .ok (.iconst 1, 1) := by decide +kernel
theorem dL_law_271 : decode cL_law 271 = .ok (.iadd, 1) := by decide +kernel
theorem dL_law_272 : decode cL_law 272 = .ok (.iaload, 1) := by decide +kernel
theorem dL_law_273 : decode cL_law 273 = .ok (.aload_n 0, 1) := by decide +kernel
theorem dL_law_274 : decode cL_law 274 = .ok (.iload_n 3, 1) := by decide +kernel
theorem dL_law_275 : decode cL_law 275 = .ok (.iconst 2, 1) := by decide +kernel
theorem dL_law_276 : decode cL_law 276 = .ok (.iadd, 1) := by decide +kernel
theorem dL_law_277 : decode cL_law 277 = .ok (.iaload, 1) := by decide +kernel
theorem dL_law_278 : decode cL_law 278 = .ok (.invokevirtual 40, 3) := by decide +kernel
theorem dL_law_281 : decode cL_law 281 = .ok (.if_icmp .eq 307, 3) := by decide +kernel
theorem dL_law_284 : decode cL_law 284 = .ok (.iconst 0, 1) := by decide +kernel
theorem dL_law_285 : decode cL_law 285 = .ok (.ireturn, 1) := by decide +kernel
theorem dL_law_286 : decode cL_law 286 = .ok (.aload_n 1, 1) := by decide +kernel
theorem dL_law_287 : decode cL_law 287 = .ok (.aload_n 0, 1) := by decide +kernel
theorem dL_law_288 : decode cL_law 288 = .ok (.iload_n 3, 1) := by decide +kernel
theorem dL_law_289 : decode cL_law 289 = .ok (.iconst 1, 1) := by decide +kernel
theorem dL_law_290 : decode cL_law 290 = .ok (.iadd, 1) := by decide +kernel
theorem dL_law_291 : decode cL_law 291 = .ok (.iaload, 1) := by decide +kernel
theorem dL_law_292 : decode cL_law 292 = .ok (.aload_n 0, 1) := by decide +kernel
theorem dL_law_293 : decode cL_law 293 = .ok (.iload_n 3, 1) := by decide +kernel
theorem dL_law_294 : decode cL_law 294 = .ok (.iconst 2, 1) := by decide +kernel
theorem dL_law_295 : decode cL_law 295 = .ok (.iadd, 1) := by decide +kernel
theorem dL_law_296 : decode cL_law 296 = .ok (.iaload, 1) := by decide +kernel
theorem dL_law_297 : decode cL_law 297 = .ok (.invokevirtual 41, 3) := by decide +kernel
theorem dL_law_300 : decode cL_law 300 = .ok (.aload_n 2, 1) := by decide +kernel
theorem dL_law_301 : decode cL_law 301 = .ok (.aload_n 0, 1) := by decide +kernel
theorem dL_law_302 : decode cL_law 302 = .ok (.iload_n 3, 1) := by decide +kernel
theorem dL_law_303 : decode cL_law 303 = .ok (.iconst 1, 1) := by decide +kernel
theorem dL_law_304 : decode cL_law 304 = .ok (.iadd, 1) := by decide +kernel
theorem dL_law_305 : decode cL_law 305 = .ok (.iaload, 1) := by decide +kernel
theorem dL_law_306 : decode cL_law 306 = .ok (.aload_n 0, 1) := by decide +kernel
theorem dL_law_307 : decode cL_law 307 = .ok (.iload_n 3, 1) := by decide +kernel
theorem dL_law_308 : decode cL_law 308 = .ok (.iconst 2, 1) := by decide +kernel
theorem dL_law_309 : decode cL_law 309 = .ok (.iadd, 1) := by decide +kernel
theorem dL_law_310 : decode cL_law 310 = .ok (.iaload, 1) := by decide +kernel
theorem dL_law_311 : decode cL_law 311 = .ok (.invokevirtual 44, 3) := by decide +kernel
theorem dL_law_314 : decode cL_law 314 = .ok (.if_icmp .eq 274, 3) := by decide +kernel
theorem dL_law_317 : decode cL_law 317 = .ok (.iconst 0, 1) := by decide +kernel
theorem dL_law_318 : decode cL_law 318 = .ok (.ireturn, 1) := by decide +kernel
theorem dL_law_319 : decode cL_law 319 = .ok (.aload_n 1, 1) := by decide +kernel
theorem dL_law_320 : decode cL_law 320 = .ok (.aload_n 0, 1) := by decide +kernel
theorem dL_law_321 : decode cL_law 321 = .ok (.iload_n 3, 1) := by decide +kernel
theorem dL_law_322 : decode cL_law 322 = .ok (.iconst 1, 1) := by decide +kernel
theorem dL_law_323 : decode cL_law 323 = .ok (.iadd, 1) := by decide +kernel
theorem dL_law_324 : decode cL_law 324 = .ok (.iaload, 1) := by decide +kernel
theorem dL_law_325 : decode cL_law 325 = .ok (.invokevirtual 45, 3) := by decide +kernel
theorem dL_law_328 : decode cL_law 328 = .ok (.aload_n 2, 1) := by decide +kernel
theorem dL_law_329 : decode cL_law 329 = .ok (.aload_n 0, 1) := by decide +kernel
theorem dL_law_330 : decode cL_law 330 = .ok (.iload_n 3, 1) := by decide +kernel
theorem dL_law_331 : decode cL_law 331 = .ok (.iconst 1, 1) := by decide +kernel
theorem dL_law_332 : decode cL_law 332 = .ok (.iadd, 1) := by decide +kernel
theorem dL_law_333 : decode cL_law 333 = .ok (.iaload, 1) := by decide +kernel
theorem dL_law_334 : decode cL_law 334 = .ok (.invokevirtual 48, 3) := by decide +kernel
theorem dL_law_337 : decode cL_law 337 = .ok (.if_icmp .eq 251, 3) := by decide +kernel
theorem dL_law_340 : decode cL_law 340 = .ok (.iconst 0, 1) := by decide +kernel
theorem dL_law_341 : decode cL_law 341 = .ok (.ireturn, 1) := by decide +kernel
theorem dL_law_342 : decode cL_law 342 = .ok (.aload_n 1, 1) := by decide +kernel
theorem dL_law_343 : decode cL_law 343 = .ok (.aload_n 0, 1) := by decide +kernel
theorem dL_law_344 : decode cL_law 344 = .ok (.iload_n 3, 1) := by decide +kernel
theorem dL_law_345 : decode cL_law 345 = .ok (.iconst 1, 1) := by decide +kernel
theorem dL_law_346 : decode cL_law 346 = .ok (.iadd, 1) := by decide +kernel
theorem dL_law_347 : decode cL_law 347 = .ok (.iaload, 1) := by decide +kernel
theorem dL_law_348 : decode cL_law 348 = .ok (.invokevirtual 49, 3) := by decide +kernel
theorem dL_law_351 : decode cL_law 351 = .ok (.aload_n 2, 1) := by decide +kernel
theorem dL_law_352 : decode cL_law 352 = .ok (.aload_n 0, 1) := by decide +kernel
theorem dL_law_353 : decode cL_law 353 = .ok (.iload_n 3, 1) := by decide +kernel
theorem dL_law_354 : decode cL_law 354 = .ok (.iconst 1, 1) := by decide +kernel
theorem dL_law_355 : decode cL_law 355 = .ok (.iadd, 1) := by decide +kernel
theorem dL_law_356 : decode cL_law 356 = .ok (.iaload, 1) := by decide +kernel
theorem dL_law_357 : decode cL_law 357 = .ok (.invokevirtual 52, 3) := by decide +kernel
theorem dL_law_360 : decode cL_law 360 = .ok (.if_icmp .eq 228, 3) := by decide +kernel
theorem dL_law_363 : decode cL_law 363 = .ok (.iconst 0, 1) := by decide +kernel
theorem dL_law_364 : decode cL_law 364 = .ok (.ireturn, 1) := by decide +kernel
theorem dL_law_365 : decode cL_law 365 = .ok (.aload_n 1, 1) := by decide +kernel
theorem dL_law_366 : decode cL_law 366 = .ok (.aload_n 0, 1) := by decide +kernel
theorem dL_law_367 : decode cL_law 367 = .ok (.iload_n 3, 1) := by decide +kernel
theorem dL_law_368 : decode cL_law 368 = .ok (.iconst 1, 1) := by decide +kernel
theorem dL_law_369 : decode cL_law 369 = .ok (.iadd, 1) := by decide +kernel
theorem dL_law_370 : decode cL_law 370 = .ok (.iaload, 1) := by decide +kernel
theorem dL_law_371 : decode cL_law 371 = .ok (.invokevirtual 53, 3) := by decide +kernel
theorem dL_law_374 : decode cL_law 374 = .ok (.aload_n 2, 1) := by decide +kernel
theorem dL_law_375 : decode cL_law 375 = .ok (.aload_n 0, 1) := by decide +kernel
theorem dL_law_376 : decode cL_law 376 = .ok (.iload_n 3, 1) := by decide +kernel
theorem dL_law_377 : decode cL_law 377 = .ok (.iconst 1, 1) := by decide +kernel
theorem dL_law_378 : decode cL_law 378 = .ok (.iadd, 1) := by decide +kernel
theorem dL_law_379 : decode cL_law 379 = .ok (.iaload, 1) := by decide +kernel
theorem dL_law_380 : decode cL_law 380 = .ok (.invokevirtual 56, 3) := by decide +kernel
