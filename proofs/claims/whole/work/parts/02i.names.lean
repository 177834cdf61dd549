theorem dX10_raw_37 : decode cX10_raw 37 = .ok (.iadd, 1) := by decide +kernel
theorem dX10_raw_38 : decode cX10_raw 38 = .ok (.iconst 1, 1) := by decide +kernel
theorem dX10_raw_39 : decode cX10_raw 39 = .ok (.isub, 1) := by decide +kernel
theorem dX10_raw_40 : decode cX10_raw 40 = .ok (.iload_n 1, 1) := by decide +kernel
theorem dX10_raw_41 : decode cX10_raw 41 = .ok (.isub, 1) := by decide +kernel
theorem dX10_raw_42 : decode cX10_raw 42 = .ok (.iaload, 1) := by decide +kernel
theorem dX10_raw_43 : decode cX10_raw 43 = .ok (.goto 5, 3) := by decide +kernel
theorem dX10_raw_46 : decode cX10_raw 46 = .ok (.ldc 78, 2) := by decide +kernel
theorem dX10_raw_48 : decode cX10_raw 48 = .ok (.ireturn, 1) := by decide +kernel
theorem dX10_stored_0 : decode cX10_stored 0 = .ok (.iload_n 1, 1) := by decide +kernel
theorem dX10_stored_1 : decode cX10_stored 1 = .ok (.ifCond .ge 6, 3) := by decide +kernel
theorem dX10_stored_4 : decode cX10_stored 4 = .ok (.ldc 59, 2) := by decide +kernel
theorem dX10_stored_6 : decode cX10_stored 6 = .ok (.ireturn, 1) := by decide +kernel
theorem dX10_stored_7 : decode cX10_stored 7 = .ok (.iload_n 1, 1) := by decide +kernel
theorem dX10_stored_8 : decode cX10_stored 8 = .ok (.aload_n 0, 1) := by decide +kernel
theorem dX10_stored_9 : decode cX10_stored 9 = .ok (.getfield 7, 3) := by decide +kernel
theorem dX10_stored_12 : decode cX10_stored 12 = .ok (.bipush 18, 2) := by decide +kernel
theorem dX10_stored_14 : decode cX10_stored 14 = .ok (.iaload, 1) := by decide +kernel
theorem dX10_stored_15 : decode cX10_stored 15 = .ok (.if_icmp .ge 15, 3) := by decide +kernel
theorem dX10_stored_18 : decode cX10_stored 18 = .ok (.aload_n 0, 1) := by decide +kernel
theorem dX10_stored_19 : decode cX10_stored 19 = .ok (.getfield 7, 3) := by decide +kernel
theorem dX10_stored_22 : decode cX10_stored 22 = .ok (.bipush 93, 2) := by decide +kernel
theorem dX10_stored_24 : decode cX10_stored 24 = .ok (.iload_n 1, 1) := by decide +kernel
theorem dX10_stored_25 : decode cX10_stored 25 = .ok (.iadd, 1) := by decide +kernel
theorem dX10_stored_26 : decode cX10_stored 26 = .ok (.iaload, 1) := by decide +kernel
theorem dX10_stored_27 : decode cX10_stored 27 = .ok (.goto 5, 3) := by decide +kernel
theorem dX10_stored_30 : decode cX10_stored 30 = .ok (.ldc 78, 2) := by decide +kernel
theorem dX10_stored_32 : decode cX10_stored 32 = .ok (.ireturn, 1) := by decide +kernel
set_option maxRecDepth 20000 in
theorem ggX10_would_X10_in : GoodIn wsX10_would wsX10_in := goodIn_r _ [6] (by decide +kernel) (by decide +kernel)
set_option maxRecDepth 20000 in
theorem gX10_would_X10_in : GoodIn wsX10_would (va_wsS RX10 30 yX10_in wsX10_in) := goodIn_app (goodIn_of _ (by decide +kernel)) ggX10_would_X10_in
set_option maxRecDepth 20000 in
theorem ggX10_would_X10_copies : GoodIn wsX10_would wsX10_copies := goodIn_r _ [10, 2, 48, 49, 50, 51, 52, 53, 54, 55, 56] (by decide +kernel) (by decide +kernel)
set_option maxRecDepth 20000 in
theorem gX10_would_X10_copies : GoodIn wsX10_would (wsV RX10 21 RX10 yX10_copies wsX10_copies) := goodIn_app (goodIn_of _ (by decide +kernel)) ggX10_would_X10_copies
set_option maxRecDepth 20000 in
theorem ggX10_would_X10_makes : GoodIn wsX10_would wsX10_makes := goodIn_r _ [14, 2, 15, 16, 17, 5, 18, 19, 20, 21, 22, 23, 24, 25, 26, 27, 28, 29, 30, 31, 32, 33, 34, 35, 36, 37, 38, 39, 40, 41, 42, 43, 3, 4, 6, 44, 45, 46, 47, 48, 49, 50, 51, 52, 53, 54, 55, 56] (by decide +kernel) (by decide +kernel)
set_option maxRecDepth 20000 in
theorem gX10_would_X10_makes : GoodIn wsX10_would (wsV RX10 69 RX10 yX10_makes wsX10_makes) := goodIn_app (goodIn_of _ (by decide +kernel)) ggX10_would_X10_makes
theorem dX10_would_0 : decode cX10_would 0 = .ok (.iload_n 1, 1) := by decide +kernel
theorem dX10_would_1 : decode cX10_would 1 = .ok (.iconst 0, 1) := by decide +kernel
theorem dX10_would_2 : decode cX10_would 2 = .ok (.sipush 300, 3) := by decide +kernel
theorem dX10_would_5 : decode cX10_would 5 = .ok (.invokestatic 30, 3) := by decide +kernel
theorem dX10_would_8 : decode cX10_would 8 = .ok (.ifCond .eq 12, 3) := by decide +kernel
theorem dX10_would_11 : decode cX10_would 11 = .ok (.iload_n 2, 1) := by decide +kernel
theorem dX10_would_12 : decode cX10_would 12 = .ok (.iconst 0, 1) := by decide +kernel
theorem dX10_would_13 : decode cX10_would 13 = .ok (.iconst 2, 1) := by decide +kernel
theorem dX10_would_14 : decode cX10_would 14 = .ok (.invokestatic 30, 3) := by decide +kernel
theorem dX10_would_17 : decode cX10_would 17 = .ok (.ifCond .ne 6, 3) := by decide +kernel
theorem dX10_would_20 : decode cX10_would 20 = .ok (.ldc 59, 2) := by decide +kernel
theorem dX10_would_22 : decode cX10_would 22 = .ok (.ireturn, 1) := by decide +kernel
theorem dX10_would_23 : decode cX10_would 23 = .ok (.aload_n 0, 1) := by decide +kernel
theorem dX10_would_24 : decode cX10_would 24 = .ok (.iconst 0, 1) := by decide +kernel
theorem dX10_would_25 : decode cX10_would 25 = .ok (.iconst 5, 1) := by decide +kernel
theorem dX10_would_26 : decode cX10_would 26 = .ok (.invokevirtual 21, 3) := by decide +kernel
theorem dX10_would_29 : decode cX10_would 29 = .ok (.aload_n 0, 1) := by decide +kernel
theorem dX10_would_30 : decode cX10_would 30 = .ok (.iconst 5, 1) := by decide +kernel
theorem dX10_would_31 : decode cX10_would 31 = .ok (.iload_n 1, 1) := by decide +kernel
theorem dX10_would_32 : decode cX10_would 32 = .ok (.invokevirtual 69, 3) := by decide +kernel
theorem dX10_would_35 : decode cX10_would 35 = .ok (.pop, 1) := by decide +kernel
theorem dX10_would_36 : decode cX10_would 36 = .ok (.sipush 785, 3) := by decide +kernel
theorem dX10_would_39 : decode cX10_would 39 = .ok (.istore_n 3, 1) := by decide +kernel
theorem dX10_would_40 : decode cX10_would 40 = .ok (.iload_n 2, 1) := by decide +kernel
theorem dX10_would_41 : decode cX10_would 41 = .ok (.ifCond .ne 15, 3) := by decide +kernel
theorem dX10_would_44 : decode cX10_would 44 = .ok (.aload_n 0, 1) := by decide +kernel
theorem dX10_would_45 : decode cX10_would 45 = .ok (.getfield 7, 3) := by decide +kernel
theorem dX10_would_48 : decode cX10_would 48 = .ok (.iload_n 3, 1) := by decide +kernel
theorem dX10_would_49 : decode cX10_would 49 = .ok (.bipush 18, 2) := by decide +kernel
theorem dX10_would_51 : decode cX10_would 51 = .ok (.iadd, 1) := by decide +kernel
theorem dX10_would_52 : decode cX10_would 52 = .ok (.iaload, 1) := by decide +kernel
theorem dX10_would_53 : decode cX10_would 53 = .ok (.goto 37, 3) := by decide +kernel
theorem dX10_would_56 : decode cX10_would 56 = .ok (.iload_n 2, 1) := by decide +kernel
theorem dX10_would_57 : decode cX10_would 57 = .ok (.iconst 1, 1) := by decide +kernel
theorem dX10_would_58 : decode cX10_would 58 = .ok (.if_icmp .ne 15, 3) := by decide +kernel
theorem dX10_would_61 : decode cX10_would 61 = .ok (.aload_n 0, 1) := by decide +kernel
theorem dX10_would_62 : decode cX10_would 62 = .ok (.getfield 7, 3) := by decide +kernel
theorem dX10_would_65 : decode cX10_would 65 = .ok (.iload_n 3, 1) := by decide +kernel
theorem dX10_would_66 : decode cX10_would 66 = .ok (.bipush 11, 2) := by decide +kernel
theorem dX10_would_68 : decode cX10_would 68 = .ok (.iadd, 1) := by decide +kernel
theorem dX10_would_69 : decode cX10_would 69 = .ok (.iaload, 1) := by decide +kernel
theorem dX10_would_70 : decode cX10_would 70 = .ok (.goto 20, 3) := by decide +kernel
theorem dX10_would_73 : decode cX10_would 73 = .ok (.aload_n 0, 1) := by decide +kernel
theorem dX10_would_74 : decode cX10_would 74 = .ok (.getfield 7, 3) := by decide +kernel
theorem dX10_would_77 : decode cX10_would 77 = .ok (.iload_n 3, 1) := by decide +kernel
theorem dX10_would_78 : decode cX10_would 78 = .ok (.bipush 24, 2) := by decide +kernel
theorem dX10_would_80 : decode cX10_would 80 = .ok (.iadd, 1) := by decide +kernel
theorem dX10_would_81 : decode cX10_would 81 = .ok (.iaload, 1) := by decide +kernel
theorem dX10_would_82 : decode cX10_would 82 = .ok (.aload_n 0, 1) := by decide +kernel
theorem dX10_would_83 : decode cX10_would 83 = .ok (.getfield 7, 3) := by decide +kernel
theorem dX10_would_86 : decode cX10_would 86 = .ok (.bipush 24, 2) := by decide +kernel
theorem dX10_would_88 : decode cX10_would 88 = .ok (.iaload, 1) := by decide +kernel
theorem dX10_would_89 : decode cX10_would 89 = .ok (.isub, 1) := by decide +kernel
theorem dX10_would_90 : decode cX10_would 90 = .ok (.ireturn, 1) := by decide +kernel
set_option maxRecDepth 20000 in
theorem ggX10_takes_X10_in : GoodIn wsX10_takes wsX10_in := goodIn_r _ [7] (by decide +kernel) (by decide +kernel)
set_option maxRecDepth 20000 in
theorem gX10_takes_X10_in : GoodIn wsX10_takes (va_wsS RX10 30 yX10_in wsX10_in) := goodIn_app (goodIn_of _ (by decide +kernel)) ggX10_takes_X10_in
set_option maxRecDepth 20000 in
theorem ggX10_takes_X10_copies : GoodIn wsX10_takes wsX10_copies := goodIn_r _ [11, 2, 45, 46, 47, 48, 49, 50, 51, 52, 53] (by decide +kernel) (by decide +kernel)
set_option maxRecDepth 20000 in
theorem gX10_takes_X10_copies : GoodIn wsX10_takes (wsV RX10 21 RX10 yX10_copies wsX10_copies) := goodIn_app (goodIn_of _ (by decide +kernel)) ggX10_takes_X10_copies
set_option maxRecDepth 20000 in
theorem ggX10_takes_X10_samples : GoodIn wsX10_takes wsX10_samples := goodIn_r _ [15, 2, 16, 17, 18, 6, 19, 20, 21, 22, 23, 24, 25, 26, 27, 28, 29, 30, 31, 32, 33, 34, 35, 36, 37, 38, 39, 40, 4, 5, 7, 41, 42, 43, 44, 45, 46, 47, 48, 49, 50, 51, 52, 53] (by decide +kernel) (by decide +kernel)
set_option maxRecDepth 20000 in
theorem gX10_takes_X10_samples : GoodIn wsX10_takes (wsV RX10 55 RX10 yX10_samples wsX10_samples) := goodIn_app (goodIn_of _ (by decide +kernel)) ggX10_takes_X10_samples
theorem dX10_takes_0 : decode cX10_takes 0 = .ok (.iload_n 1, 1) := by decide +kernel
theorem dX10_takes_1 : decode cX10_takes 1 = .ok (.iconst 1, 1) := by decide +kernel
theorem dX10_takes_2 : decode cX10_takes 2 = .ok (.bipush 64, 2) := by decide +kernel
theorem dX10_takes_4 : decode cX10_takes 4 = .ok (.invokestatic 30, 3) := by decide +kernel
theorem dX10_takes_7 : decode cX10_takes 7 = .ok (.ifCond .ne 6, 3) := by decide +kernel
theorem dX10_takes_10 : decode cX10_takes 10 = .ok (.ldc 59, 2) := by decide +kernel
theorem dX10_takes_12 : decode cX10_takes 12 = .ok (.ireturn, 1) := by decide +kernel
theorem dX10_takes_13 : decode cX10_takes 13 = .ok (.aload_n 0, 1) := by decide +kernel
theorem dX10_takes_14 : decode cX10_takes 14 = .ok (.iconst 0, 1) := by decide +kernel
theorem dX10_takes_15 : decode cX10_takes 15 = .ok (.iconst 5, 1) := by decide +kernel
theorem dX10_takes_16 : decode cX10_takes 16 = .ok (.invokevirtual 21, 3) := by decide +kernel
theorem dX10_takes_19 : decode cX10_takes 19 = .ok (.sipush 785, 3) := by decide +kernel
theorem dX10_takes_22 : decode cX10_takes 22 = .ok (.istore_n 2, 1) := by decide +kernel
theorem dX10_takes_23 : decode cX10_takes 23 = .ok (.iconst 0, 1) := by decide +kernel
theorem dX10_takes_24 : decode cX10_takes 24 = .ok (.istore_n 3, 1) := by decide +kernel
theorem dX10_takes_25 : decode cX10_takes 25 = .ok (.aload_n 0, 1) := by decide +kernel
theorem dX10_takes_26 : decode cX10_takes 26 = .ok (.getfield 7, 3) := by decide +kernel
theorem dX10_takes_29 : decode cX10_takes 29 = .ok (.iload_n 2, 1) := by decide +kernel
theorem dX10_takes_30 : decode cX10_takes 30 = .ok (.bipush 18, 2) := by decide +kernel
theorem dX10_takes_32 : decode cX10_takes 32 = .ok (.iadd, 1) := by decide +kernel
theorem dX10_takes_33 : decode cX10_takes 33 = .ok (.iaload, 1) := by decide +kernel
theorem dX10_takes_34 : decode cX10_takes 34 = .ok (.iload_n 1, 1) := by decide +kernel
theorem dX10_takes_35 : decode cX10_takes 35 = .ok (.if_icmp .ge 21, 3) := by decide +kernel
theorem dX10_takes_38 : decode cX10_takes 38 = .ok (.iload_n 3, 1) := by decide +kernel
theorem dX10_takes_39 : decode cX10_takes 39 = .ok (.sipush 2000, 3) := by decide +kernel
theorem dX10_takes_42 : decode cX10_takes 42 = .ok (.if_icmp .ge 14, 3) := by decide +kernel
theorem dX10_takes_45 : decode cX10_takes 45 = .ok (.aload_n 0, 1) := by decide +kernel
theorem dX10_takes_46 : decode cX10_takes 46 = .ok (.iload_n 2, 1) := by decide +kernel
theorem dX10_takes_47 : decode cX10_takes 47 = .ok (.invokevirtual 55, 3) := by decide +kernel
theorem dX10_takes_50 : decode cX10_takes 50 = .ok (.iinc 3 1, 3) := by decide +kernel
theorem dX10_takes_53 : decode cX10_takes 53 = .ok (.goto (-28), 3) := by decide +kernel
theorem dX10_takes_56 : decode cX10_takes 56 = .ok (.aload_n 0, 1) := by decide +kernel
theorem dX10_takes_57 : decode cX10_takes 57 = .ok (.getfield 7, 3) := by decide +kernel
theorem dX10_takes_60 : decode cX10_takes 60 = .ok (.iload_n 2, 1) := by decide +kernel
theorem dX10_takes_61 : decode cX10_takes 61 = .ok (.bipush 18, 2) := by decide +kernel
theorem dX10_takes_63 : decode cX10_takes 63 = .ok (.iadd, 1) := by decide +kernel
theorem dX10_takes_64 : decode cX10_takes 64 = .ok (.iaload, 1) := by decide +kernel
theorem dX10_takes_65 : decode cX10_takes 65 = .ok (.iload_n 1, 1) := by decide +kernel
theorem dX10_takes_66 : decode cX10_takes 66 = .ok (.if_icmp .lt 7, 3) := by decide +kernel
theorem dX10_takes_69 : decode cX10_takes 69 = .ok (.iload_n 3, 1) := by decide +kernel
theorem dX10_takes_70 : decode cX10_takes 70 = .ok (.goto 5, 3) := by decide +kernel
theorem dX10_takes_73 : decode cX10_takes 73 = .ok (.ldc 78, 2) := by decide +kernel
theorem dX10_takes_75 : decode cX10_takes 75 = .ok (.ireturn, 1) := by decide +kernel
set_option maxRecDepth 20000 in
theorem ggX10_bestPeriod_X10_in : GoodIn wsX10_bestPeriod wsX10_in := goodIn_r _ [6] (by decide +kernel) (by decide +kernel)
set_option maxRecDepth 20000 in
theorem gX10_bestPeriod_X10_in : GoodIn wsX10_bestPeriod (va_wsS RX10 30 yX10_in wsX10_in) := goodIn_app (goodIn_of _ (by decide +kernel)) ggX10_bestPeriod_X10_in
set_option maxRecDepth 20000 in
theorem ggX10_bestPeriod_X10_copies : GoodIn wsX10_bestPeriod wsX10_copies := goodIn_r _ [10, 2, 52, 53, 54, 55, 56, 57, 58, 59, 60] (by decide +kernel) (by decide +kernel)
set_option maxRecDepth 20000 in
theorem gX10_bestPeriod_X10_copies : GoodIn wsX10_bestPeriod (wsV RX10 21 RX10 yX10_copies wsX10_copies) := goodIn_app (goodIn_of _ (by decide +kernel)) ggX10_bestPeriod_X10_copies
set_option maxRecDepth 20000 in
theorem ggX10_bestPeriod_X10_sets : GoodIn wsX10_bestPeriod wsX10_sets := goodIn_r _ [14, 1, 2, 3, 4, 5, 6, 52, 53, 54, 55, 56, 57, 58, 59, 60] (by decide +kernel) (by decide +kernel)
set_option maxRecDepth 20000 in
theorem gX10_bestPeriod_X10_sets : GoodIn wsX10_bestPeriod (wsV RX10 61 RX10 yX10_sets wsX10_sets) := goodIn_app (goodIn_of _ (by decide +kernel)) ggX10_bestPeriod_X10_sets
set_option maxRecDepth 20000 in
theorem ggX10_bestPeriod_X10_makes : GoodIn wsX10_bestPeriod wsX10_makes := goodIn_r _ [18, 2, 19, 20, 21, 5, 22, 23, 24, 25, 26, 27, 28, 29, 30, 31, 32, 33, 34, 35, 36, 37, 38, 39, 40, 41, 42, 43, 44, 45, 46, 47, 3, 4, 6, 48, 49, 50, 51, 52, 53, 54, 55, 56, 57, 58, 59, 60] (by decide +kernel) (by decide +kernel)
set_option maxRecDepth 20000 in
theorem gX10_bestPeriod_X10_makes : GoodIn wsX10_bestPeriod (wsV RX10 69 RX10 yX10_makes wsX10_makes) := goodIn_app (goodIn_of _ (by decide +kernel)) ggX10_bestPeriod_X10_makes
theorem dX10_bestPeriod_0 : decode cX10_bestPeriod 0 = .ok (.iload_n 1, 1) := by decide +kernel
theorem dX10_bestPeriod_1 : decode cX10_bestPeriod 1 = .ok (.iconst 0, 1) := by decide +kernel
theorem dX10_bestPeriod_2 : decode cX10_bestPeriod 2 = .ok (.iconst 1, 1) := by decide +kernel
theorem dX10_bestPeriod_3 : decode cX10_bestPeriod 3 = .ok (.invokestatic 30, 3) := by decide +kernel
theorem dX10_bestPeriod_6 : decode cX10_bestPeriod 6 = .ok (.ifCond .ne 6, 3) := by decide +kernel
theorem dX10_bestPeriod_9 : decode cX10_bestPeriod 9 = .ok (.ldc 59, 2) := by decide +kernel
theorem dX10_bestPeriod_11 : decode cX10_bestPeriod 11 = .ok (.ireturn, 1) := by decide +kernel
theorem dX10_bestPeriod_12 : decode cX10_bestPeriod 12 = .ok (.iconst 0, 1) := by decide +kernel
theorem dX10_bestPeriod_13 : decode cX10_bestPeriod 13 = .ok (.istore_n 2, 1) := by decide +kernel
theorem dX10_bestPeriod_14 : decode cX10_bestPeriod 14 = .ok (.iconst (-1), 1) := by decide +kernel
theorem dX10_bestPeriod_15 : decode cX10_bestPeriod 15 = .ok (.istore_n 3, 1) := by decide +kernel
theorem dX10_bestPeriod_16 : decode cX10_bestPeriod 16 = .ok (.bipush 20, 2) := by decide +kernel
theorem dX10_bestPeriod_18 : decode cX10_bestPeriod 18 = .ok (.istore 4, 2) := by decide +kernel
theorem dX10_bestPeriod_20 : decode cX10_bestPeriod 20 = .ok (.iload 4, 2) := by decide +kernel
theorem dX10_bestPeriod_22 : decode cX10_bestPeriod 22 = .ok (.sipush 400, 3) := by decide +kernel
theorem dX10_bestPeriod_25 : decode cX10_bestPeriod 25 = .ok (.if_icmp .gt 75, 3) := by decide +kernel
theorem dX10_bestPeriod_28 : decode cX10_bestPeriod 28 = .ok (.aload_n 0, 1) := by decide +kernel
theorem dX10_bestPeriod_29 : decode cX10_bestPeriod 29 = .ok (.iconst 0, 1) := by decide +kernel
theorem dX10_bestPeriod_30 : decode cX10_bestPeriod 30 = .ok (.iconst 5, 1) := by decide +kernel
theorem dX10_bestPeriod_31 : decode cX10_bestPeriod 31 = .ok (.invokevirtual 21, 3) := by decide +kernel
theorem dX10_bestPeriod_34 : decode cX10_bestPeriod 34 = .ok (.aload_n 0, 1) := by decide +kernel
theorem dX10_bestPeriod_35 : decode cX10_bestPeriod 35 = .ok (.iconst 5, 1) := by decide +kernel
theorem dX10_bestPeriod_36 : decode cX10_bestPeriod 36 = .ok (.iconst 1, 1) := by decide +kernel
theorem dX10_bestPeriod_37 : decode cX10_bestPeriod 37 = .ok (.iload 4, 2) := by decide +kernel
theorem dX10_bestPeriod_39 : decode cX10_bestPeriod 39 = .ok (.aload_n 0, 1) := by decide +kernel
theorem dX10_bestPeriod_40 : decode cX10_bestPeriod 40 = .ok (.getfield 7, 3) := by decide +kernel
theorem dX10_bestPeriod_43 : decode cX10_bestPeriod 43 = .ok (.iconst 4, 1) := by decide +kernel
theorem dX10_bestPeriod_44 : decode cX10_bestPeriod 44 = .ok (.iaload, 1) := by decide +kernel
theorem dX10_bestPeriod_45 : decode cX10_bestPeriod 45 = .ok (.invokevirtual 61, 3) := by decide +kernel
theorem dX10_bestPeriod_48 : decode cX10_bestPeriod 48 = .ok (.pop, 1) := by decide +kernel
theorem dX10_bestPeriod_49 : decode cX10_bestPeriod 49 = .ok (.aload_n 0, 1) := by decide +kernel
theorem dX10_bestPeriod_50 : decode cX10_bestPeriod 50 = .ok (.iconst 5, 1) := by decide +kernel
theorem dX10_bestPeriod_51 : decode cX10_bestPeriod 51 = .ok (.sipush 200, 3) := by decide +kernel
theorem dX10_bestPeriod_54 : decode cX10_bestPeriod 54 = .ok (.invokevirtual 69, 3) := by decide +kernel
theorem dX10_bestPeriod_57 : decode cX10_bestPeriod 57 = .ok (.pop, 1) := by decide +kernel
theorem dX10_bestPeriod_58 : decode cX10_bestPeriod 58 = .ok (.aload_n 0, 1) := by decide +kernel
theorem dX10_bestPeriod_59 : decode cX10_bestPeriod 59 = .ok (.getfield 7, 3) := by decide +kernel
theorem dX10_bestPeriod_62 : decode cX10_bestPeriod 62 = .ok (.sipush 803, 3) := by decide +kernel
theorem dX10_bestPeriod_65 : decode cX10_bestPeriod 65 = .ok (.iaload, 1) := by decide +kernel
theorem dX10_bestPeriod_66 : decode cX10_bestPeriod 66 = .ok (.istore 5, 2) := by decide +kernel
theorem dX10_bestPeriod_68 : decode cX10_bestPeriod 68 = .ok (.iload 5, 2) := by decide +kernel
theorem dX10_bestPeriod_70 : decode cX10_bestPeriod 70 = .ok (.iload_n 3, 1) := by decide +kernel
theorem dX10_bestPeriod_71 : decode cX10_bestPeriod 71 = .ok (.if_icmp .le 8, 3) := by decide +kernel
theorem dX10_bestPeriod_74 : decode cX10_bestPeriod 74 = .ok (.iload 4, 2) := by decide +kernel
theorem dX10_bestPeriod_76 : decode cX10_bestPeriod 76 = .ok (.goto 4, 3) := by decide +kernel
theorem dX10_bestPeriod_79 : decode cX10_bestPeriod 79 = .ok (.iload_n 2, 1) := by decide +kernel
theorem dX10_bestPeriod_80 : decode cX10_bestPeriod 80 = .ok (.istore_n 2, 1) := by decide +kernel
theorem dX10_bestPeriod_81 : decode cX10_bestPeriod 81 = .ok (.iload 5, 2) := by decide +kernel
theorem dX10_bestPeriod_83 : decode cX10_bestPeriod 83 = .ok (.iload_n 3, 1) := by decide +kernel
theorem dX10_bestPeriod_84 : decode cX10_bestPeriod 84 = .ok (.if_icmp .le 8, 3) := by decide +kernel
theorem dX10_bestPeriod_87 : decode cX10_bestPeriod 87 = .ok (.iload 5, 2) := by decide +kernel
theorem dX10_bestPeriod_89 : decode cX10_bestPeriod 89 = .ok (.goto 4, 3) := by decide +kernel
theorem dX10_bestPeriod_92 : decode cX10_bestPeriod 92 = .ok (.iload_n 3, 1) := by decide +kernel
theorem dX10_bestPeriod_93 : decode cX10_bestPeriod 93 = .ok (.istore_n 3, 1) := by decide +kernel
theorem dX10_bestPeriod_94 : decode cX10_bestPeriod 94 = .ok (.iinc 4 20, 3) := by decide +kernel
theorem dX10_bestPeriod_97 : decode cX10_bestPeriod 97 = .ok (.goto (-77), 3) := by decide +kernel
theorem dX10_bestPeriod_100 : decode cX10_bestPeriod 100 = .ok (.iload_n 1, 1) := by decide +kernel
theorem dX10_bestPeriod_101 : decode cX10_bestPeriod 101 = .ok (.ifCond .ne 7, 3) := by decide +kernel
theorem dX10_bestPeriod_104 : decode cX10_bestPeriod 104 = .ok (.iload_n 2, 1) := by decide +kernel
theorem dX10_bestPeriod_105 : decode cX10_bestPeriod 105 = .ok (.goto 4, 3) := by decide +kernel
theorem dX10_bestPeriod_108 : decode cX10_bestPeriod 108 = .ok (.iload_n 3, 1) := by decide +kernel
theorem dX10_bestPeriod_109 : decode cX10_bestPeriod 109 = .ok (.ireturn, 1) := by decide +kernel
set_option maxRecDepth 20000 in
theorem ggX10_share_Jxf58ca_floatToIntBits_5c35a : GoodIn wsX10_share wsJxf58ca_floatToIntBits_5c35a := goodIn_r _ [6, 7, 8, 9, 10, 11, 12, 13, 5, 14] (by decide +kernel) (by decide +kernel)
set_option maxRecDepth 20000 in
theorem gX10_share_Jxf58ca_floatToIntBits_5c35a : GoodIn wsX10_share (va_wsS RX10 79 yJxf58ca_floatToIntBits_5c35a wsJxf58ca_floatToIntBits_5c35a) := goodIn_app (goodIn_of _ (by decide +kernel)) ggX10_share_Jxf58ca_floatToIntBits_5c35a
theorem dX10_share_0 : decode cX10_share 0 = .ok (.iconst 0, 1) := by decide +kernel
theorem dX10_share_1 : decode cX10_share 1 = .ok (.istore_n 1, 1) := by decide +kernel
theorem dX10_share_2 : decode cX10_share 2 = .ok (.iconst 0, 1) := by decide +kernel
theorem dX10_share_3 : decode cX10_share 3 = .ok (.istore_n 2, 1) := by decide +kernel
theorem dX10_share_4 : decode cX10_share 4 = .ok (.iload_n 2, 1) := by decide +kernel
theorem dX10_share_5 : decode cX10_share 5 = .ok (.aload_n 0, 1) := by decide +kernel
theorem dX10_share_6 : decode cX10_share 6 = .ok (.getfield 7, 3) := by decide +kernel
theorem dX10_share_9 : decode cX10_share 9 = .ok (.bipush 28, 2) := by decide +kernel
theorem dX10_share_11 : decode cX10_share 11 = .ok (.iaload, 1) := by decide +kernel
theorem dX10_share_12 : decode cX10_share 12 = .ok (.if_icmp .ge 21, 3) := by decide +kernel
theorem dX10_share_15 : decode cX10_share 15 = .ok (.iload_n 1, 1) := by decide +kernel
theorem dX10_share_16 : decode cX10_share 16 = .ok (.aload_n 0, 1) := by decide +kernel
theorem dX10_share_17 : decode cX10_share 17 = .ok (.getfield 7, 3) := by decide +kernel
theorem dX10_share_20 : decode cX10_share 20 = .ok (.bipush 29, 2) := by decide +kernel
theorem dX10_share_22 : decode cX10_share 22 = .ok (.iload_n 2, 1) := by decide +kernel
theorem dX10_share_23 : decode cX10_share 23 = .ok (.iadd, 1) := by decide +kernel
theorem dX10_share_24 : decode cX10_share 24 = .ok (.iaload, 1) := by decide +kernel
theorem dX10_share_25 : decode cX10_share 25 = .ok (.iadd, 1) := by decide +kernel
theorem dX10_share_26 : decode cX10_share 26 = .ok (.istore_n 1, 1) := by decide +kernel
theorem dX10_share_27 : decode cX10_share 27 = .ok (.iinc 2 1, 3) := by decide +kernel
theorem dX10_share_30 : decode cX10_share 30 = .ok (.goto (-26), 3) := by decide +kernel
theorem dX10_share_33 : decode cX10_share 33 = .ok (.aload_n 0, 1) := by decide +kernel
theorem dX10_share_34 : decode cX10_share 34 = .ok (.getfield 7, 3) := by decide +kernel
theorem dX10_share_37 : decode cX10_share 37 = .ok (.bipush 28, 2) := by decide +kernel
theorem dX10_share_39 : decode cX10_share 39 = .ok (.iaload, 1) := by decide +kernel
theorem dX10_share_40 : decode cX10_share 40 = .ok (.ifCond .ne 8, 3) := by decide +kernel
theorem dX10_share_43 : decode cX10_share 43 = .ok (.ldc 78, 2) := by decide +kernel
theorem dX10_share_45 : decode cX10_share 45 = .ok (.goto 17, 3) := by decide +kernel
theorem dX10_share_48 : decode cX10_share 48 = .ok (.iload_n 1, 1) := by decide +kernel
theorem dX10_share_49 : decode cX10_share 49 = .ok (.i2f, 1) := by decide +kernel
theorem dX10_share_50 : decode cX10_share 50 = .ok (.aload_n 0, 1) := by decide +kernel
theorem dX10_share_51 : decode cX10_share 51 = .ok (.getfield 7, 3) := by decide +kernel
theorem dX10_share_54 : decode cX10_share 54 = .ok (.bipush 28, 2) := by decide +kernel
theorem dX10_share_56 : decode cX10_share 56 = .ok (.iaload, 1) := by decide +kernel
theorem dX10_share_57 : decode cX10_share 57 = .ok (.i2f, 1) := by decide +kernel
theorem dX10_share_58 : decode cX10_share 58 = .ok (.fdiv, 1) := by decide +kernel
theorem dX10_share_59 : decode cX10_share 59 = .ok (.invokestatic 79, 3) := by decide +kernel
theorem dX10_share_62 : decode cX10_share 62 = .ok (.ireturn, 1) := by decide +kernel
set_option maxRecDepth 20000 in
theorem ggX10_count_X10_in : GoodIn wsX10_count wsX10_in := goodIn_r _ [8] (by decide +kernel) (by decide +kernel)
set_option maxRecDepth 20000 in
theorem gX10_count_X10_in : GoodIn wsX10_count (va_wsS RX10 30 yX10_in wsX10_in) := goodIn_app (goodIn_of _ (by decide +kernel)) ggX10_count_X10_in
theorem dX10_count_0 : decode cX10_count 0 = .ok (.iload_n 1, 1) := by decide +kernel
theorem dX10_count_1 : decode cX10_count 1 = .ok (.iconst 0, 1) := by decide +kernel
theorem dX10_count_2 : decode cX10_count 2 = .ok (.bipush 7, 2) := by decide +kernel
theorem dX10_count_4 : decode cX10_count 4 = .ok (.invokestatic 30, 3) := by decide +kernel
theorem dX10_count_7 : decode cX10_count 7 = .ok (.ifCond .eq 13, 3) := by decide +kernel
theorem dX10_count_10 : decode cX10_count 10 = .ok (.aload_n 0, 1) := by decide +kernel
theorem dX10_count_11 : decode cX10_count 11 = .ok (.getfield 7, 3) := by decide +kernel
theorem dX10_count_14 : decode cX10_count 14 = .ok (.bipush 20, 2) := by decide +kernel
theorem dX10_count_16 : decode cX10_count 16 = .ok (.iload_n 1, 1) := by decide +kernel
theorem dX10_count_17 : decode cX10_count 17 = .ok (.iadd, 1) := by decide +kernel
theorem dX10_count_18 : decode cX10_count 18 = .ok (.iaload, 1) := by decide +kernel
theorem dX10_count_19 : decode cX10_count 19 = .ok (.ireturn, 1) := by decide +kernel
theorem dX10_count_20 : decode cX10_count 20 = .ok (.iload_n 1, 1) := by decide +kernel
theorem dX10_count_21 : decode cX10_count 21 = .ok (.bipush 20, 2) := by decide +kernel
theorem dX10_count_23 : decode cX10_count 23 = .ok (.bipush 23, 2) := by decide +kernel
theorem dX10_count_25 : decode cX10_count 25 = .ok (.invokestatic 30, 3) := by decide +kernel
theorem dX10_count_28 : decode cX10_count 28 = .ok (.ifCond .eq 16, 3) := by decide +kernel
theorem dX10_count_31 : decode cX10_count 31 = .ok (.aload_n 0, 1) := by decide +kernel
theorem dX10_count_32 : decode cX10_count 32 = .ok (.getfield 7, 3) := by decide +kernel
theorem dX10_count_35 : decode cX10_count 35 = .ok (.bipush 7, 2) := by decide +kernel
theorem dX10_count_37 : decode cX10_count 37 = .ok (.iload_n 1, 1) := by decide +kernel
theorem dX10_count_38 : decode cX10_count 38 = .ok (.iadd, 1) := by decide +kernel
theorem dX10_count_39 : decode cX10_count 39 = .ok (.bipush 20, 2) := by decide +kernel
theorem dX10_count_41 : decode cX10_count 41 = .ok (.isub, 1) := by decide +kernel
theorem dX10_count_42 : decode cX10_count 42 = .ok (.iaload, 1) := by decide +kernel
theorem dX10_count_43 : decode cX10_count 43 = .ok (.ireturn, 1) := by decide +kernel
theorem dX10_count_44 : decode cX10_count 44 = .ok (.iload_n 1, 1) := by decide +kernel
theorem dX10_count_45 : decode cX10_count 45 = .ok (.bipush 8, 2) := by decide +kernel
theorem dX10_count_47 : decode cX10_count 47 = .ok (.if_icmp .ne 10, 3) := by decide +kernel
theorem dX10_count_50 : decode cX10_count 50 = .ok (.aload_n 0, 1) := by decide +kernel
theorem dX10_count_51 : decode cX10_count 51 = .ok (.getfield 17, 3) := by decide +kernel
theorem dX10_count_54 : decode cX10_count 54 = .ok (.goto 18, 3) := by decide +kernel
theorem dX10_count_57 : decode cX10_count 57 = .ok (.iload_n 1, 1) := by decide +kernel
theorem dX10_count_58 : decode cX10_count 58 = .ok (.bipush 9, 2) := by decide +kernel
theorem dX10_count_60 : decode cX10_count 60 = .ok (.if_icmp .ne 10, 3) := by decide +kernel
theorem dX10_count_63 : decode cX10_count 63 = .ok (.aload_n 0, 1) := by decide +kernel
theorem dX10_count_64 : decode cX10_count 64 = .ok (.getfield 85, 3) := by decide +kernel
theorem dX10_count_67 : decode cX10_count 67 = .ok (.goto 5, 3) := by decide +kernel
theorem dX10_count_70 : decode cX10_count 70 = .ok (.ldc 59, 2) := by decide +kernel
theorem dX10_count_72 : decode cX10_count 72 = .ok (.ireturn, 1) := by decide +kernel
set_option maxRecDepth 20000 in
theorem ggX10_undo_X10_copies : GoodIn wsX10_undo wsX10_copies := goodIn_r _ [7, 8, 9, 10, 11, 12, 13, 14, 15, 16, 17] (by decide +kernel) (by decide +kernel)
set_option maxRecDepth 20000 in
theorem gX10_undo_X10_copies : GoodIn wsX10_undo (wsV RX10 21 RX10 yX10_copies wsX10_copies) := goodIn_app (goodIn_of _ (by decide +kernel)) ggX10_undo_X10_copies
theorem dX10_undo_0 : decode cX10_undo 0 = .ok (.aload_n 0, 1) := by decide +kernel
theorem dX10_undo_1 : decode cX10_undo 1 = .ok (.getfield 17, 3) := by decide +kernel
theorem dX10_undo_4 : decode cX10_undo 4 = .ok (.ifCond .ne 6, 3) := by decide +kernel
theorem dX10_undo_7 : decode cX10_undo 7 = .ok (.ldc 60, 2) := by decide +kernel
theorem dX10_undo_9 : decode cX10_undo 9 = .ok (.ireturn, 1) := by decide +kernel
theorem dX10_undo_10 : decode cX10_undo 10 = .ok (.aload_n 0, 1) := by decide +kernel
theorem dX10_undo_11 : decode cX10_undo 11 = .ok (.aload_n 0, 1) := by decide +kernel
theorem dX10_undo_12 : decode cX10_undo 12 = .ok (.getfield 17, 3) := by decide +kernel
theorem dX10_undo_15 : decode cX10_undo 15 = .ok (.iconst 0, 1) := by decide +kernel
theorem dX10_undo_16 : decode cX10_undo 16 = .ok (.invokevirtual 21, 3) := by decide +kernel
theorem dX10_undo_19 : decode cX10_undo 19 = .ok (.aload_n 0, 1) := by decide +kernel
theorem dX10_undo_20 : decode cX10_undo 20 = .ok (.dup, 1) := by decide +kernel
theorem dX10_undo_21 : decode cX10_undo 21 = .ok (.getfield 17, 3) := by decide +kernel
theorem dX10_undo_24 : decode cX10_undo 24 = .ok (.iconst 1, 1) := by decide +kernel
theorem dX10_undo_25 : decode cX10_undo 25 = .ok (.isub, 1) := by decide +kernel
theorem dX10_undo_26 : decode cX10_undo 26 = .ok (.putfield 17, 3) := by decide +kernel
theorem dX10_undo_29 : decode cX10_undo 29 = .ok (.aload_n 0, 1) := by decide +kernel
theorem dX10_undo_30 : decode cX10_undo 30 = .ok (.getfield 17, 3) := by decide +kernel
theorem dX10_undo_33 : decode cX10_undo 33 = .ok (.ireturn, 1) := by decide +kernel
set_option maxRecDepth 20000 in
theorem ggX10_type_X10_in : GoodIn wsX10_type wsX10_in := goodIn_r _ [8] (by decide +kernel) (by decide +kernel)
set_option maxRecDepth 20000 in
theorem gX10_type_X10_in : GoodIn wsX10_type (va_wsS RX10 30 yX10_in wsX10_in) := goodIn_app (goodIn_of _ (by decide +kernel)) ggX10_type_X10_in
theorem dX10_type_0 : decode cX10_type 0 = .ok (.iload_n 1, 1) := by decide +kernel
theorem dX10_type_1 : decode cX10_type 1 = .ok (.bipush 32, 2) := by decide +kernel
theorem dX10_type_3 : decode cX10_type 3 = .ok (.bipush 126, 2) := by decide +kernel
theorem dX10_type_5 : decode cX10_type 5 = .ok (.invokestatic 30, 3) := by decide +kernel
theorem dX10_type_8 : decode cX10_type 8 = .ok (.ifCond .ne 6, 3) := by decide +kernel
theorem dX10_type_11 : decode cX10_type 11 = .ok (.ldc 59, 2) := by decide +kernel
theorem dX10_type_13 : decode cX10_type 13 = .ok (.ireturn, 1) := by decide +kernel
theorem dX10_type_14 : decode cX10_type 14 = .ok (.aload_n 0, 1) := by decide +kernel
theorem dX10_type_15 : decode cX10_type 15 = .ok (.getfield 85, 3) := by decide +kernel
theorem dX10_type_18 : decode cX10_type 18 = .ok (.bipush 60, 2) := by decide +kernel
theorem dX10_type_20 : decode cX10_type 20 = .ok (.if_icmp .ne 6, 3) := by decide +kernel
theorem dX10_type_23 : decode cX10_type 23 = .ok (.ldc 88, 2) := by decide +kernel
theorem dX10_type_25 : decode cX10_type 25 = .ok (.ireturn, 1) := by decide +kernel
theorem dX10_type_26 : decode cX10_type 26 = .ok (.aload_n 0, 1) := by decide +kernel
theorem dX10_type_27 : decode cX10_type 27 = .ok (.getfield 13, 3) := by decide +kernel
theorem dX10_type_30 : decode cX10_type 30 = .ok (.aload_n 0, 1) := by decide +kernel
theorem dX10_type_31 : decode cX10_type 31 = .ok (.getfield 85, 3) := by decide +kernel
theorem dX10_type_34 : decode cX10_type 34 = .ok (.iload_n 1, 1) := by decide +kernel
theorem dX10_type_35 : decode cX10_type 35 = .ok (.i2c, 1) := by decide +kernel
theorem dX10_type_36 : decode cX10_type 36 = .ok (.castore, 1) := by decide +kernel
theorem dX10_type_37 : decode cX10_type 37 = .ok (.aload_n 0, 1) := by decide +kernel
theorem dX10_type_38 : decode cX10_type 38 = .ok (.dup, 1) := by decide +kernel
theorem dX10_type_39 : decode cX10_type 39 = .ok (.getfield 85, 3) := by decide +kernel
theorem dX10_type_42 : decode cX10_type 42 = .ok (.iconst 1, 1) := by decide +kernel
theorem dX10_type_43 : decode cX10_type 43 = .ok (.iadd, 1) := by decide +kernel
theorem dX10_type_44 : decode cX10_type 44 = .ok (.putfield 85, 3) := by decide +kernel
theorem dX10_type_47 : decode cX10_type 47 = .ok (.aload_n 0, 1) := by decide +kernel
theorem dX10_type_48 : decode cX10_type 48 = .ok (.getfield 85, 3) := by decide +kernel
theorem dX10_type_51 : decode cX10_type 51 = .ok (.ireturn, 1) := by decide +kernel
theorem dX10_clearText_0 : decode cX10_clearText 0 = .ok (.aload_n 0, 1) := by decide +kernel
theorem dX10_clearText_1 : decode cX10_clearText 1 = .ok (.getfield 85, 3) := by decide +kernel
theorem dX10_clearText_4 : decode cX10_clearText 4 = .ok (.istore_n 1, 1) := by decide +kernel
theorem dX10_clearText_5 : decode cX10_clearText 5 = .ok (.aload_n 0, 1) := by decide +kernel
theorem dX10_clearText_6 : decode cX10_clearText 6 = .ok (.iconst 0, 1) := by decide +kernel
theorem dX10_clearText_7 : decode cX10_clearText 7 = .ok (.putfield 85, 3) := by decide +kernel
theorem dX10_clearText_10 : decode cX10_clearText 10 = .ok (.iload_n 1, 1) := by decide +kernel
theorem dX10_clearText_11 : decode cX10_clearText 11 = .ok (.ireturn, 1) := by decide +kernel
set_option maxRecDepth 20000 in
theorem ggX10_number_X10_in : GoodIn wsX10_number wsX10_in := goodIn_r _ [7] (by decide +kernel) (by decide +kernel)
set_option maxRecDepth 20000 in
theorem gX10_number_X10_in : GoodIn wsX10_number (va_wsS RX10 30 yX10_in wsX10_in) := goodIn_app (goodIn_of _ (by decide +kernel)) ggX10_number_X10_in
theorem dX10_number_0 : decode cX10_number 0 = .ok (.aload_n 0, 1) := by decide +kernel
theorem dX10_number_1 : decode cX10_number 1 = .ok (.getfield 89, 3) := by decide +kernel
theorem dX10_number_4 : decode cX10_number 4 = .ok (.istore_n 1, 1) := by decide +kernel
theorem dX10_number_5 : decode cX10_number 5 = .ok (.iconst 0, 1) := by decide +kernel
theorem dX10_number_6 : decode cX10_number 6 = .ok (.istore_n 2, 1) := by decide +kernel
theorem dX10_number_7 : decode cX10_number 7 = .ok (.aload_n 0, 1) := by decide +kernel
theorem dX10_number_8 : decode cX10_number 8 = .ok (.getfield 89, 3) := by decide +kernel
theorem dX10_number_11 : decode cX10_number 11 = .ok (.aload_n 0, 1) := by decide +kernel
theorem dX10_number_12 : decode cX10_number 12 = .ok (.getfield 85, 3) := by decide +kernel
theorem dX10_number_15 : decode cX10_number 15 = .ok (.if_icmp .ge 63, 3) := by decide +kernel
theorem dX10_number_18 : decode cX10_number 18 = .ok (.aload_n 0, 1) := by decide +kernel
theorem dX10_number_19 : decode cX10_number 19 = .ok (.getfield 89, 3) := by decide +kernel
theorem dX10_number_22 : decode cX10_number 22 = .ok (.iload_n 1, 1) := by decide +kernel
theorem dX10_number_23 : decode cX10_number 23 = .ok (.iconst 3, 1) := by decide +kernel
theorem dX10_number_24 : decode cX10_number 24 = .ok (.iadd, 1) := by decide +kernel
theorem dX10_number_25 : decode cX10_number 25 = .ok (.if_icmp .ge 53, 3) := by decide +kernel
theorem dX10_number_28 : decode cX10_number 28 = .ok (.aload_n 0, 1) := by decide +kernel
theorem dX10_number_29 : decode cX10_number 29 = .ok (.getfield 13, 3) := by decide +kernel
theorem dX10_number_32 : decode cX10_number 32 = .ok (.aload_n 0, 1) := by decide +kernel
theorem dX10_number_33 : decode cX10_number 33 = .ok (.getfield 89, 3) := by decide +kernel
theorem dX10_number_36 : decode cX10_number 36 = .ok (.caload, 1) := by decide +kernel
theorem dX10_number_37 : decode cX10_number 37 = .ok (.bipush 48, 2) := by decide +kernel
theorem dX10_number_39 : decode cX10_number 39 = .ok (.bipush 57, 2) := by decide +kernel
theorem dX10_number_41 : decode cX10_number 41 = .ok (.invokestatic 30, 3) := by decide +kernel
theorem dX10_number_44 : decode cX10_number 44 = .ok (.ifCond .eq 34, 3) := by decide +kernel
theorem dX10_number_47 : decode cX10_number 47 = .ok (.bipush 10, 2) := by decide +kernel
theorem dX10_number_49 : decode cX10_number 49 = .ok (.iload_n 2, 1) := by decide +kernel
theorem dX10_number_50 : decode cX10_number 50 = .ok (.imul, 1) := by decide +kernel
theorem dX10_number_51 : decode cX10_number 51 = .ok (.aload_n 0, 1) := by decide +kernel
theorem dX10_number_52 : decode cX10_number 52 = .ok (.getfield 13, 3) := by decide +kernel
theorem dX10_number_55 : decode cX10_number 55 = .ok (.aload_n 0, 1) := by decide +kernel
theorem dX10_number_56 : decode cX10_number 56 = .ok (.getfield 89, 3) := by decide +kernel
theorem dX10_number_59 : decode cX10_number 59 = .ok (.caload, 1) := by decide +kernel
theorem dX10_number_60 : decode cX10_number 60 = .ok (.iadd, 1) := by decide +kernel
theorem dX10_number_61 : decode cX10_number 61 = .ok (.bipush 48, 2) := by decide +kernel
theorem dX10_number_63 : decode cX10_number 63 = .ok (.isub, 1) := by decide +kernel
theorem dX10_number_64 : decode cX10_number 64 = .ok (.istore_n 2, 1) := by decide +kernel
theorem dX10_number_65 : decode cX10_number 65 = .ok (.aload_n 0, 1) := by decide +kernel
theorem dX10_number_66 : decode cX10_number 66 = .ok (.dup, 1) := by decide +kernel
theorem dX10_number_67 : decode cX10_number 67 = .ok (.getfield 89, 3) := by decide +kernel
theorem dX10_number_70 : decode cX10_number 70 = .ok (.iconst 1, 1) := by decide +kernel
theorem dX10_number_71 : decode cX10_number 71 = .ok (.iadd, 1) := by decide +kernel
theorem dX10_number_72 : decode cX10_number 72 = .ok (.putfield 89, 3) := by decide +kernel
theorem dX10_number_75 : decode cX10_number 75 = .ok (.goto (-68), 3) := by decide +kernel
theorem dX10_number_78 : decode cX10_number 78 = .ok (.aload_n 0, 1) := by decide +kernel
theorem dX10_number_79 : decode cX10_number 79 = .ok (.getfield 89, 3) := by decide +kernel
theorem dX10_number_82 : decode cX10_number 82 = .ok (.iload_n 1, 1) := by decide +kernel
theorem dX10_number_83 : decode cX10_number 83 = .ok (.if_icmp .le 7, 3) := by decide +kernel
theorem dX10_number_86 : decode cX10_number 86 = .ok (.iload_n 2, 1) := by decide +kernel
theorem dX10_number_87 : decode cX10_number 87 = .ok (.goto 4, 3) := by decide +kernel
theorem dX10_number_90 : decode cX10_number 90 = .ok (.iconst (-1), 1) := by decide +kernel
theorem dX10_number_91 : decode cX10_number 91 = .ok (.ireturn, 1) := by decide +kernel
theorem dX10_isNext_0 : decode cX10_isNext 0 = .ok (.aload_n 0, 1) := by decide +kernel
theorem dX10_isNext_1 : decode cX10_isNext 1 = .ok (.getfield 89, 3) := by decide +kernel
theorem dX10_isNext_4 : decode cX10_isNext 4 = .ok (.aload_n 0, 1) := by decide +kernel
theorem dX10_isNext_5 : decode cX10_isNext 5 = .ok (.getfield 85, 3) := by decide +kernel
theorem dX10_isNext_8 : decode cX10_isNext 8 = .ok (.if_icmp .ge 20, 3) := by decide +kernel
theorem dX10_isNext_11 : decode cX10_isNext 11 = .ok (.aload_n 0, 1) := by decide +kernel
theorem dX10_isNext_12 : decode cX10_isNext 12 = .ok (.getfield 13, 3) := by decide +kernel
theorem dX10_isNext_15 : decode cX10_isNext 15 = .ok (.aload_n 0, 1) := by decide +kernel
theorem dX10_isNext_16 : decode cX10_isNext 16 = .ok (.getfield 89, 3) := by decide +kernel
theorem dX10_isNext_19 : decode cX10_isNext 19 = .ok (.caload, 1) := by decide +kernel
theorem dX10_isNext_20 : decode cX10_isNext 20 = .ok (.iload_n 1, 1) := by decide +kernel
theorem dX10_isNext_21 : decode cX10_isNext 21 = .ok (.if_icmp .ne 7, 3) := by decide +kernel
theorem dX10_isNext_24 : decode cX10_isNext 24 = .ok (.iconst 1, 1) := by decide +kernel
theorem dX10_isNext_25 : decode cX10_isNext 25 = .ok (.goto 4, 3) := by decide +kernel
theorem dX10_isNext_28 : decode cX10_isNext 28 = .ok (.iconst 0, 1) := by decide +kernel
theorem dX10_isNext_29 : decode cX10_isNext 29 = .ok (.istore_n 2, 1) := by decide +kernel
theorem dX10_isNext_30 : decode cX10_isNext 30 = .ok (.aload_n 0, 1) := by decide +kernel
theorem dX10_isNext_31 : decode cX10_isNext 31 = .ok (.dup, 1) := by decide +kernel
theorem dX10_isNext_32 : decode cX10_isNext 32 = .ok (.getfield 89, 3) := by decide +kernel
theorem dX10_isNext_35 : decode cX10_isNext 35 = .ok (.iload_n 2, 1) := by decide +kernel
theorem dX10_isNext_36 : decode cX10_isNext 36 = .ok (.ifCond .eq 7, 3) := by decide +kernel
theorem dX10_isNext_39 : decode cX10_isNext 39 = .ok (.iconst 1, 1) := by decide +kernel
theorem dX10_isNext_40 : decode cX10_isNext 40 = .ok (.goto 4, 3) := by decide +kernel
theorem dX10_isNext_43 : decode cX10_isNext 43 = .ok (.iconst 0, 1) := by decide +kernel
theorem dX10_isNext_44 : decode cX10_isNext 44 = .ok (.iadd, 1) := by decide +kernel
theorem dX10_isNext_45 : decode cX10_isNext 45 = .ok (.putfield 89, 3) := by decide +kernel
theorem dX10_isNext_48 : decode cX10_isNext 48 = .ok (.iload_n 2, 1) := by decide +kernel
theorem dX10_isNext_49 : decode cX10_isNext 49 = .ok (.ireturn, 1) := by decide +kernel
set_option maxRecDepth 20000 in
theorem ggX10_does_X10_number : GoodIn wsX10_does wsX10_number := goodIn_r _ [12, 1, 13, 3, 14, 15, 11, 16, 71, 72, 73, 74, 75, 76, 77, 78, 79] (by decide +kernel) (by decide +kernel)
set_option maxRecDepth 20000 in
theorem gX10_does_X10_number : GoodIn wsX10_does (wsV RX10 95 RX10 yX10_number wsX10_number) := goodIn_app (goodIn_of _ (by decide +kernel)) ggX10_does_X10_number
set_option maxRecDepth 20000 in
theorem ggX10_does_X10_isNext : GoodIn wsX10_does wsX10_isNext := goodIn_r _ [20, 1, 13, 3, 71, 72, 73, 74, 75, 76, 77, 78, 79] (by decide +kernel) (by decide +kernel)
set_option maxRecDepth 20000 in
theorem gX10_does_X10_isNext : GoodIn wsX10_does (wsV RX10 99 RX10 yX10_isNext wsX10_isNext) := goodIn_app (goodIn_of _ (by decide +kernel)) ggX10_does_X10_isNext
set_option maxRecDepth 20000 in
theorem ggX10_does_X10_sets : GoodIn wsX10_does wsX10_sets := goodIn_r _ [24, 6, 7, 14, 15, 11, 16, 71, 72, 73, 74, 75, 76, 77, 78, 79] (by decide +kernel) (by decide +kernel)
set_option maxRecDepth 20000 in
theorem gX10_does_X10_sets : GoodIn wsX10_does (wsV RX10 61 RX10 yX10_sets wsX10_sets) := goodIn_app (goodIn_of _ (by decide +kernel)) ggX10_does_X10_sets
set_option maxRecDepth 20000 in
theorem ggX10_does_X10_in : GoodIn wsX10_does wsX10_in := goodIn_r _ [16] (by decide +kernel) (by decide +kernel)
set_option maxRecDepth 20000 in
theorem gX10_does_X10_in : GoodIn wsX10_does (va_wsS RX10 30 yX10_in wsX10_in) := goodIn_app (goodIn_of _ (by decide +kernel)) ggX10_does_X10_in
set_option maxRecDepth 20000 in
theorem ggX10_does_X10_makes : GoodIn wsX10_does wsX10_makes := goodIn_r _ [28, 7, 29, 30, 31, 11, 32, 33, 34, 35, 36, 37, 38, 39, 40, 41, 42, 43, 44, 45, 46, 47, 48, 49, 50, 51, 52, 53, 54, 55, 56, 57, 14, 15, 16, 58, 59, 60, 61, 71, 72, 73, 74, 75, 76, 77, 78, 79] (by decide +kernel) (by decide +kernel)
set_option maxRecDepth 20000 in
theorem gX10_does_X10_makes : GoodIn wsX10_does (wsV RX10 69 RX10 yX10_makes wsX10_makes) := goodIn_app (goodIn_of _ (by decide +kernel)) ggX10_does_X10_makes
set_option maxRecDepth 20000 in
theorem ggX10_does_X10_draws : GoodIn wsX10_does wsX10_draws := goodIn_r _ [65, 6, 7, 66, 14, 15, 11, 16, 71, 72, 73, 74, 75, 76, 77, 78, 79] (by decide +kernel) (by decide +kernel)
set_option maxRecDepth 20000 in
theorem gX10_does_X10_draws : GoodIn wsX10_does (wsV RX10 72 RX10 yX10_draws wsX10_draws) := goodIn_app (goodIn_of _ (by decide +kernel)) ggX10_does_X10_draws
set_option maxRecDepth 20000 in
theorem ggX10_does_X10_starts : GoodIn wsX10_does wsX10_starts := goodIn_r _ [70, 7, 71, 72, 73, 74, 75, 76, 77, 78, 79] (by decide +kernel) (by decide +kernel)
set_option maxRecDepth 20000 in
theorem gX10_does_X10_starts : GoodIn wsX10_does (wsV RX10 75 RX10 yX10_starts wsX10_starts) := goodIn_app (goodIn_of _ (by decide +kernel)) ggX10_does_X10_starts
theorem dX10_does_0 : decode cX10_does 0 = .ok (.aload_n 0, 1) := by decide +kernel
theorem dX10_does_1 : decode cX10_does 1 = .ok (.aload_n 0, 1) := by decide +kernel
theorem dX10_does_2 : decode cX10_does 2 = .ok (.getfield 89, 3) := by decide +kernel
theorem dX10_does_5 : decode cX10_does 5 = .ok (.putfield 92, 3) := by decide +kernel
theorem dX10_does_8 : decode cX10_does 8 = .ok (.aload_n 0, 1) := by decide +kernel
theorem dX10_does_9 : decode cX10_does 9 = .ok (.getfield 13, 3) := by decide +kernel
theorem dX10_does_12 : decode cX10_does 12 = .ok (.aload_n 0, 1) := by decide +kernel
theorem dX10_does_13 : decode cX10_does 13 = .ok (.getfield 89, 3) := by decide +kernel
theorem dX10_does_16 : decode cX10_does 16 = .ok (.caload, 1) := by decide +kernel
theorem dX10_does_17 : decode cX10_does 17 = .ok (.istore_n 1, 1) := by decide +kernel
theorem dX10_does_18 : decode cX10_does 18 = .ok (.iload_n 1, 1) := by decide +kernel
theorem dX10_does_19 : decode cX10_does 19 = .ok (.bipush 114, 2) := by decide +kernel
theorem dX10_does_21 : decode cX10_does 21 = .ok (.if_icmp .eq 27, 3) := by decide +kernel
theorem dX10_does_24 : decode cX10_does 24 = .ok (.iload_n 1, 1) := by decide +kernel
theorem dX10_does_25 : decode cX10_does 25 = .ok (.bipush 115, 2) := by decide +kernel
theorem dX10_does_27 : decode cX10_does 27 = .ok (.if_icmp .eq 21, 3) := by decide +kernel
theorem dX10_does_30 : decode cX10_does 30 = .ok (.iload_n 1, 1) := by decide +kernel
theorem dX10_does_31 : decode cX10_does 31 = .ok (.bipush 100, 2) := by decide +kernel
theorem dX10_does_33 : decode cX10_does 33 = .ok (.if_icmp .eq 15, 3) := by decide +kernel
theorem dX10_does_36 : decode cX10_does 36 = .ok (.iload_n 1, 1) := by decide +kernel
theorem dX10_does_37 : decode cX10_does 37 = .ok (.bipush 110, 2) := by decide +kernel
theorem dX10_does_39 : decode cX10_does 39 = .ok (.if_icmp .eq 9, 3) := by decide +kernel
theorem dX10_does_42 : decode cX10_does 42 = .ok (.iload_n 1, 1) := by decide +kernel
theorem dX10_does_43 : decode cX10_does 43 = .ok (.bipush 120, 2) := by decide +kernel
theorem dX10_does_45 : decode cX10_does 45 = .ok (.if_icmp .ne 7, 3) := by decide +kernel
theorem dX10_does_48 : decode cX10_does 48 = .ok (.iconst 1, 1) := by decide +kernel
theorem dX10_does_49 : decode cX10_does 49 = .ok (.goto 4, 3) := by decide +kernel
theorem dX10_does_52 : decode cX10_does 52 = .ok (.iconst 0, 1) := by decide +kernel
theorem dX10_does_53 : decode cX10_does 53 = .ok (.istore_n 2, 1) := by decide +kernel
theorem dX10_does_54 : decode cX10_does 54 = .ok (.aload_n 0, 1) := by decide +kernel
theorem dX10_does_55 : decode cX10_does 55 = .ok (.dup, 1) := by decide +kernel
theorem dX10_does_56 : decode cX10_does 56 = .ok (.getfield 89, 3) := by decide +kernel
theorem dX10_does_59 : decode cX10_does 59 = .ok (.iload_n 2, 1) := by decide +kernel
theorem dX10_does_60 : decode cX10_does 60 = .ok (.ifCond .eq 7, 3) := by decide +kernel
theorem dX10_does_63 : decode cX10_does 63 = .ok (.iconst 1, 1) := by decide +kernel
theorem dX10_does_64 : decode cX10_does 64 = .ok (.goto 4, 3) := by decide +kernel
theorem dX10_does_67 : decode cX10_does 67 = .ok (.iconst 0, 1) := by decide +kernel
theorem dX10_does_68 : decode cX10_does 68 = .ok (.iadd, 1) := by decide +kernel
theorem dX10_does_69 : decode cX10_does 69 = .ok (.putfield 89, 3) := by decide +kernel
theorem dX10_does_72 : decode cX10_does 72 = .ok (.iload_n 2, 1) := by decide +kernel
theorem dX10_does_73 : decode cX10_does 73 = .ok (.ifCond .eq 16, 3) := by decide +kernel
theorem dX10_does_76 : decode cX10_does 76 = .ok (.iload_n 1, 1) := by decide +kernel
theorem dX10_does_77 : decode cX10_does 77 = .ok (.bipush 110, 2) := by decide +kernel
theorem dX10_does_79 : decode cX10_does 79 = .ok (.if_icmp .eq 10, 3) := by decide +kernel
theorem dX10_does_82 : decode cX10_does 82 = .ok (.aload_n 0, 1) := by decide +kernel
theorem dX10_does_83 : decode cX10_does 83 = .ok (.invokevirtual 95, 3) := by decide +kernel
theorem dX10_does_86 : decode cX10_does 86 = .ok (.goto 4, 3) := by decide +kernel
theorem dX10_does_89 : decode cX10_does 89 = .ok (.iconst 0, 1) := by decide +kernel
theorem dX10_does_90 : decode cX10_does 90 = .ok (.istore_n 3, 1) := by decide +kernel
theorem dX10_does_91 : decode cX10_does 91 = .ok (.iload_n 2, 1) := by decide +kernel
theorem dX10_does_92 : decode cX10_does 92 = .ok (.ifCond .eq 11, 3) := by decide +kernel
theorem dX10_does_95 : decode cX10_does 95 = .ok (.iload_n 3, 1) := by decide +kernel
theorem dX10_does_96 : decode cX10_does 96 = .ok (.ifCond .lt 7, 3) := by decide +kernel
theorem dX10_does_99 : decode cX10_does 99 = .ok (.iconst 1, 1) := by decide +kernel
theorem dX10_does_100 : decode cX10_does 100 = .ok (.goto 4, 3) := by decide +kernel
theorem dX10_does_103 : decode cX10_does 103 = .ok (.iconst 0, 1) := by decide +kernel
theorem dX10_does_104 : decode cX10_does 104 = .ok (.istore_n 2, 1) := by decide +kernel
theorem dX10_does_105 : decode cX10_does 105 = .ok (.iconst 0, 1) := by decide +kernel
theorem dX10_does_106 : decode cX10_does 106 = .ok (.istore 4, 2) := by decide +kernel
theorem dX10_does_108 : decode cX10_does 108 = .ok (.iconst 0, 1) := by decide +kernel
theorem dX10_does_109 : decode cX10_does 109 = .ok (.istore 5, 2) := by decide +kernel
theorem dX10_does_111 : decode cX10_does 111 = .ok (.iload_n 2, 1) := by decide +kernel
theorem dX10_does_112 : decode cX10_does 112 = .ok (.ifCond .eq 83, 3) := by decide +kernel
theorem dX10_does_115 : decode cX10_does 115 = .ok (.iload_n 1, 1) := by decide +kernel
theorem dX10_does_116 : decode cX10_does 116 = .ok (.bipush 114, 2) := by decide +kernel
theorem dX10_does_118 : decode cX10_does 118 = .ok (.if_icmp .ne 77, 3) := by decide +kernel
theorem dX10_does_121 : decode cX10_does 121 = .ok (.aload_n 0, 1) := by decide +kernel
theorem dX10_does_122 : decode cX10_does 122 = .ok (.bipush 44, 2) := by decide +kernel
theorem dX10_does_124 : decode cX10_does 124 = .ok (.invokevirtual 99, 3) := by decide +kernel
theorem dX10_does_127 : decode cX10_does 127 = .ok (.istore_n 2, 1) := by decide +kernel
theorem dX10_does_128 : decode cX10_does 128 = .ok (.iload_n 2, 1) := by decide +kernel
theorem dX10_does_129 : decode cX10_does 129 = .ok (.ifCond .eq 10, 3) := by decide +kernel
theorem dX10_does_132 : decode cX10_does 132 = .ok (.aload_n 0, 1) := by decide +kernel
theorem dX10_does_133 : decode cX10_does 133 = .ok (.invokevirtual 95, 3) := by decide +kernel
theorem dX10_does_136 : decode cX10_does 136 = .ok (.goto 4, 3) := by decide +kernel
theorem dX10_does_139 : decode cX10_does 139 = .ok (.iconst (-1), 1) := by decide +kernel
theorem dX10_does_140 : decode cX10_does 140 = .ok (.istore 4, 2) := by decide +kernel
theorem dX10_does_142 : decode cX10_does 142 = .ok (.iload_n 2, 1) := by decide +kernel
theorem dX10_does_143 : decode cX10_does 143 = .ok (.ifCond .eq 21, 3) := by decide +kernel
theorem dX10_does_146 : decode cX10_does 146 = .ok (.iload 4, 2) := by decide +kernel
theorem dX10_does_148 : decode cX10_does 148 = .ok (.ifCond .lt 16, 3) := by decide +kernel
theorem dX10_does_151 : decode cX10_does 151 = .ok (.aload_n 0, 1) := by decide +kernel
theorem dX10_does_152 : decode cX10_does 152 = .ok (.bipush 44, 2) := by decide +kernel
theorem dX10_does_154 : decode cX10_does 154 = .ok (.invokevirtual 99, 3) := by decide +kernel
theorem dX10_does_157 : decode cX10_does 157 = .ok (.ifCond .eq 7, 3) := by decide +kernel
theorem dX10_does_160 : decode cX10_does 160 = .ok (.iconst 1, 1) := by decide +kernel
theorem dX10_does_161 : decode cX10_does 161 = .ok (.goto 4, 3) := by decide +kernel
theorem dX10_does_164 : decode cX10_does 164 = .ok (.iconst 0, 1) := by decide +kernel
theorem dX10_does_165 : decode cX10_does 165 = .ok (.istore_n 2, 1) := by decide +kernel
theorem dX10_does_166 : decode cX10_does 166 = .ok (.iload_n 2, 1) := by decide +kernel
theorem dX10_does_167 : decode cX10_does 167 = .ok (.ifCond .eq 10, 3) := by decide +kernel
theorem dX10_does_170 : decode cX10_does 170 = .ok (.aload_n 0, 1) := by decide +kernel
theorem dX10_does_171 : decode cX10_does 171 = .ok (.invokevirtual 95, 3) := by decide +kernel
theorem dX10_does_174 : decode cX10_does 174 = .ok (.goto 4, 3) := by decide +kernel
theorem dX10_does_177 : decode cX10_does 177 = .ok (.iconst (-1), 1) := by decide +kernel
theorem dX10_does_178 : decode cX10_does 178 = .ok (.istore 5, 2) := by decide +kernel
theorem dX10_does_180 : decode cX10_does 180 = .ok (.iload_n 2, 1) := by decide +kernel
theorem dX10_does_181 : decode cX10_does 181 = .ok (.ifCond .eq 12, 3) := by decide +kernel
theorem dX10_does_184 : decode cX10_does 184 = .ok (.iload 5, 2) := by decide +kernel
theorem dX10_does_186 : decode cX10_does 186 = .ok (.ifCond .lt 7, 3) := by decide +kernel
theorem dX10_does_189 : decode cX10_does 189 = .ok (.iconst 1, 1) := by decide +kernel
theorem dX10_does_190 : decode cX10_does 190 = .ok (.goto 4, 3) := by decide +kernel
theorem dX10_does_193 : decode cX10_does 193 = .ok (.iconst 0, 1) := by decide +kernel
theorem dX10_does_194 : decode cX10_does 194 = .ok (.istore_n 2, 1) := by decide +kernel
theorem dX10_does_195 : decode cX10_does 195 = .ok (.iload_n 2, 1) := by decide +kernel
theorem dX10_does_196 : decode cX10_does 196 = .ok (.ifCond .eq 16, 3) := by decide +kernel
theorem dX10_does_199 : decode cX10_does 199 = .ok (.aload_n 0, 1) := by decide +kernel
theorem dX10_does_200 : decode cX10_does 200 = .ok (.bipush 59, 2) := by decide +kernel
theorem dX10_does_202 : decode cX10_does 202 = .ok (.invokevirtual 99, 3) := by decide +kernel
theorem dX10_does_205 : decode cX10_does 205 = .ok (.ifCond .eq 7, 3) := by decide +kernel
theorem dX10_does_208 : decode cX10_does 208 = .ok (.iconst 1, 1) := by decide +kernel
theorem dX10_does_209 : decode cX10_does 209 = .ok (.goto 4, 3) := by decide +kernel
theorem dX10_does_212 : decode cX10_does 212 = .ok (.iconst 0, 1) := by decide +kernel
theorem dX10_does_213 : decode cX10_does 213 = .ok (.istore_n 2, 1) := by decide +kernel
theorem dX10_does_214 : decode cX10_does 214 = .ok (.iload_n 2, 1) := by decide +kernel
theorem dX10_does_215 : decode cX10_does 215 = .ok (.ifCond .ne 23, 3) := by decide +kernel
theorem dX10_does_218 : decode cX10_does 218 = .ok (.aload_n 0, 1) := by decide +kernel
theorem dX10_does_219 : decode cX10_does 219 = .ok (.iconst 1, 1) := by decide +kernel
theorem dX10_does_220 : decode cX10_does 220 = .ok (.putfield 102, 3) := by decide +kernel
theorem dX10_does_223 : decode cX10_does 223 = .ok (.aload_n 0, 1) := by decide +kernel
theorem dX10_does_224 : decode cX10_does 224 = .ok (.aload_n 0, 1) := by decide +kernel
theorem dX10_does_225 : decode cX10_does 225 = .ok (.getfield 89, 3) := by decide +kernel
theorem dX10_does_228 : decode cX10_does 228 = .ok (.aload_n 0, 1) := by decide +kernel
theorem dX10_does_229 : decode cX10_does 229 = .ok (.getfield 92, 3) := by decide +kernel
theorem dX10_does_232 : decode cX10_does 232 = .ok (.isub, 1) := by decide +kernel
theorem dX10_does_233 : decode cX10_does 233 = .ok (.putfield 105, 3) := by decide +kernel
theorem dX10_does_236 : decode cX10_does 236 = .ok (.iconst 0, 1) := by decide +kernel
theorem dX10_does_237 : decode cX10_does 237 = .ok (.ireturn, 1) := by decide +kernel
theorem dX10_does_238 : decode cX10_does 238 = .ok (.iconst 0, 1) := by decide +kernel
theorem dX10_does_239 : decode cX10_does 239 = .ok (.istore 6, 2) := by decide +kernel
theorem dX10_does_241 : decode cX10_does 241 = .ok (.iload_n 1, 1) := by decide +kernel
theorem dX10_does_242 : decode cX10_does 242 = .ok (.bipush 114, 2) := by decide +kernel
theorem dX10_does_244 : decode cX10_does 244 = .ok (.if_icmp .ne 19, 3) := by decide +kernel
theorem dX10_does_247 : decode cX10_does 247 = .ok (.aload_n 0, 1) := by decide +kernel
theorem dX10_does_248 : decode cX10_does 248 = .ok (.bipush 6, 2) := by decide +kernel
theorem dX10_does_250 : decode cX10_does 250 = .ok (.iload_n 3, 1) := by decide +kernel
theorem dX10_does_251 : decode cX10_does 251 = .ok (.iload 4, 2) := by decide +kernel
theorem dX10_does_253 : decode cX10_does 253 = .ok (.iload 5, 2) := by decide +kernel
theorem dX10_does_255 : decode cX10_does 255 = .ok (.invokevirtual 61, 3) := by decide +kernel
theorem dX10_does_258 : decode cX10_does 258 = .ok (.istore 6, 2) := by decide +kernel
theorem dX10_does_260 : decode cX10_does 260 = .ok (.goto 108, 3) := by decide +kernel
theorem dX10_does_263 : decode cX10_does 263 = .ok (.iload_n 1, 1) := by decide +kernel
theorem dX10_does_264 : decode cX10_does 264 = .ok (.bipush 115, 2) := by decide +kernel
theorem dX10_does_266 : decode cX10_does 266 = .ok (.if_icmp .ne 31, 3) := by decide +kernel
theorem dX10_does_269 : decode cX10_does 269 = .ok (.iload_n 3, 1) := by decide +kernel
theorem dX10_does_270 : decode cX10_does 270 = .ok (.iconst 1, 1) := by decide +kernel
theorem dX10_does_271 : decode cX10_does 271 = .ok (.sipush 300, 3) := by decide +kernel
theorem dX10_does_274 : decode cX10_does 274 = .ok (.invokestatic 30, 3) := by decide +kernel
theorem dX10_does_277 : decode cX10_does 277 = .ok (.ifCond .eq 13, 3) := by decide +kernel
theorem dX10_does_280 : decode cX10_does 280 = .ok (.aload_n 0, 1) := by decide +kernel
theorem dX10_does_281 : decode cX10_does 281 = .ok (.bipush 6, 2) := by decide +kernel
