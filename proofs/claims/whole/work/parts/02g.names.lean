theorem dX10_records_45 : decode cX10_records 45 = .ok (.iadd, 1) := by decide +kernel
theorem dX10_records_46 : decode cX10_records 46 = .ok (.putfield 17, 3) := by decide +kernel
theorem dX10_records_49 : decode cX10_records 49 = .ok (.aload_n 0, 1) := by decide +kernel
theorem dX10_records_50 : decode cX10_records 50 = .ok (.iconst 0, 1) := by decide +kernel
theorem dX10_records_51 : decode cX10_records 51 = .ok (.aload_n 0, 1) := by decide +kernel
theorem dX10_records_52 : decode cX10_records 52 = .ok (.getfield 17, 3) := by decide +kernel
theorem dX10_records_55 : decode cX10_records 55 = .ok (.invokevirtual 21, 3) := by decide +kernel
theorem dX10_records_58 : decode cX10_records 58 = .ok (.return_, 1) := by decide +kernel
theorem dX10_asks_0 : decode cX10_asks 0 = .ok (.aload_n 0, 1) := by decide +kernel
theorem dX10_asks_1 : decode cX10_asks 1 = .ok (.getfield 7, 3) := by decide +kernel
theorem dX10_asks_4 : decode cX10_asks 4 = .ok (.iload_n 1, 1) := by decide +kernel
theorem dX10_asks_5 : decode cX10_asks 5 = .ok (.aload_n 0, 1) := by decide +kernel
theorem dX10_asks_6 : decode cX10_asks 6 = .ok (.getfield 7, 3) := by decide +kernel
theorem dX10_asks_9 : decode cX10_asks 9 = .ok (.iload_n 1, 1) := by decide +kernel
theorem dX10_asks_10 : decode cX10_asks 10 = .ok (.iaload, 1) := by decide +kernel
theorem dX10_asks_11 : decode cX10_asks 11 = .ok (.bipush 75, 2) := by decide +kernel
theorem dX10_asks_13 : decode cX10_asks 13 = .ok (.imul, 1) := by decide +kernel
theorem dX10_asks_14 : decode cX10_asks 14 = .ok (.ldc 25, 2) := by decide +kernel
theorem dX10_asks_16 : decode cX10_asks 16 = .ok (.irem, 1) := by decide +kernel
theorem dX10_asks_17 : decode cX10_asks 17 = .ok (.iastore, 1) := by decide +kernel
theorem dX10_asks_18 : decode cX10_asks 18 = .ok (.aload_n 0, 1) := by decide +kernel
theorem dX10_asks_19 : decode cX10_asks 19 = .ok (.getfield 7, 3) := by decide +kernel
theorem dX10_asks_22 : decode cX10_asks 22 = .ok (.iload_n 1, 1) := by decide +kernel
theorem dX10_asks_23 : decode cX10_asks 23 = .ok (.iaload, 1) := by decide +kernel
theorem dX10_asks_24 : decode cX10_asks 24 = .ok (.ireturn, 1) := by decide +kernel
theorem dX10_locks_0 : decode cX10_locks 0 = .ok (.aload_n 0, 1) := by decide +kernel
theorem dX10_locks_1 : decode cX10_locks 1 = .ok (.getfield 7, 3) := by decide +kernel
theorem dX10_locks_4 : decode cX10_locks 4 = .ok (.iload_n 1, 1) := by decide +kernel
theorem dX10_locks_5 : decode cX10_locks 5 = .ok (.iconst 1, 1) := by decide +kernel
theorem dX10_locks_6 : decode cX10_locks 6 = .ok (.iadd, 1) := by decide +kernel
theorem dX10_locks_7 : decode cX10_locks 7 = .ok (.iaload, 1) := by decide +kernel
theorem dX10_locks_8 : decode cX10_locks 8 = .ok (.aload_n 0, 1) := by decide +kernel
theorem dX10_locks_9 : decode cX10_locks 9 = .ok (.getfield 7, 3) := by decide +kernel
theorem dX10_locks_12 : decode cX10_locks 12 = .ok (.iload_n 1, 1) := by decide +kernel
theorem dX10_locks_13 : decode cX10_locks 13 = .ok (.iconst 1, 1) := by decide +kernel
theorem dX10_locks_14 : decode cX10_locks 14 = .ok (.iadd, 1) := by decide +kernel
theorem dX10_locks_15 : decode cX10_locks 15 = .ok (.iconst 1, 1) := by decide +kernel
theorem dX10_locks_16 : decode cX10_locks 16 = .ok (.iadd, 1) := by decide +kernel
theorem dX10_locks_17 : decode cX10_locks 17 = .ok (.iaload, 1) := by decide +kernel
theorem dX10_locks_18 : decode cX10_locks 18 = .ok (.isub, 1) := by decide +kernel
theorem dX10_locks_19 : decode cX10_locks 19 = .ok (.istore_n 2, 1) := by decide +kernel
theorem dX10_locks_20 : decode cX10_locks 20 = .ok (.iload_n 2, 1) := by decide +kernel
theorem dX10_locks_21 : decode cX10_locks 21 = .ok (.ifCond .ge 8, 3) := by decide +kernel
theorem dX10_locks_24 : decode cX10_locks 24 = .ok (.iload_n 2, 1) := by decide +kernel
theorem dX10_locks_25 : decode cX10_locks 25 = .ok (.ineg, 1) := by decide +kernel
theorem dX10_locks_26 : decode cX10_locks 26 = .ok (.goto 4, 3) := by decide +kernel
theorem dX10_locks_29 : decode cX10_locks 29 = .ok (.iload_n 2, 1) := by decide +kernel
theorem dX10_locks_30 : decode cX10_locks 30 = .ok (.aload_n 0, 1) := by decide +kernel
theorem dX10_locks_31 : decode cX10_locks 31 = .ok (.getfield 7, 3) := by decide +kernel
theorem dX10_locks_34 : decode cX10_locks 34 = .ok (.iload_n 1, 1) := by decide +kernel
theorem dX10_locks_35 : decode cX10_locks 35 = .ok (.bipush 7, 2) := by decide +kernel
theorem dX10_locks_37 : decode cX10_locks 37 = .ok (.iadd, 1) := by decide +kernel
theorem dX10_locks_38 : decode cX10_locks 38 = .ok (.iconst 1, 1) := by decide +kernel
theorem dX10_locks_39 : decode cX10_locks 39 = .ok (.iadd, 1) := by decide +kernel
theorem dX10_locks_40 : decode cX10_locks 40 = .ok (.iaload, 1) := by decide +kernel
theorem dX10_locks_41 : decode cX10_locks 41 = .ok (.if_icmp .gt 7, 3) := by decide +kernel
theorem dX10_locks_44 : decode cX10_locks 44 = .ok (.iconst 1, 1) := by decide +kernel
theorem dX10_locks_45 : decode cX10_locks 45 = .ok (.goto 4, 3) := by decide +kernel
theorem dX10_locks_48 : decode cX10_locks 48 = .ok (.iconst 0, 1) := by decide +kernel
theorem dX10_locks_49 : decode cX10_locks 49 = .ok (.ireturn, 1) := by decide +kernel
set_option maxRecDepth 20000 in
theorem ggX10_runs_X10_asks : GoodIn wsX10_runs wsX10_asks := goodIn_r _ [6, 1, 7, 8, 9, 10, 11, 12, 13, 14, 15, 16] (by decide +kernel) (by decide +kernel)
set_option maxRecDepth 20000 in
theorem gX10_runs_X10_asks : GoodIn wsX10_runs (wsV RX10 26 RX10 yX10_asks wsX10_asks) := goodIn_app (goodIn_of _ (by decide +kernel)) ggX10_runs_X10_asks
theorem dX10_runs_0 : decode cX10_runs 0 = .ok (.aload_n 0, 1) := by decide +kernel
theorem dX10_runs_1 : decode cX10_runs 1 = .ok (.getfield 7, 3) := by decide +kernel
theorem dX10_runs_4 : decode cX10_runs 4 = .ok (.iload_n 1, 1) := by decide +kernel
theorem dX10_runs_5 : decode cX10_runs 5 = .ok (.bipush 7, 2) := by decide +kernel
theorem dX10_runs_7 : decode cX10_runs 7 = .ok (.iadd, 1) := by decide +kernel
theorem dX10_runs_8 : decode cX10_runs 8 = .ok (.iaload, 1) := by decide +kernel
theorem dX10_runs_9 : decode cX10_runs 9 = .ok (.aload_n 0, 1) := by decide +kernel
theorem dX10_runs_10 : decode cX10_runs 10 = .ok (.iload_n 1, 1) := by decide +kernel
theorem dX10_runs_11 : decode cX10_runs 11 = .ok (.invokevirtual 26, 3) := by decide +kernel
theorem dX10_runs_14 : decode cX10_runs 14 = .ok (.aload_n 0, 1) := by decide +kernel
theorem dX10_runs_15 : decode cX10_runs 15 = .ok (.getfield 7, 3) := by decide +kernel
theorem dX10_runs_18 : decode cX10_runs 18 = .ok (.iload_n 1, 1) := by decide +kernel
theorem dX10_runs_19 : decode cX10_runs 19 = .ok (.iconst 3, 1) := by decide +kernel
theorem dX10_runs_20 : decode cX10_runs 20 = .ok (.iadd, 1) := by decide +kernel
theorem dX10_runs_21 : decode cX10_runs 21 = .ok (.iload_n 2, 1) := by decide +kernel
theorem dX10_runs_22 : decode cX10_runs 22 = .ok (.iadd, 1) := by decide +kernel
theorem dX10_runs_23 : decode cX10_runs 23 = .ok (.iaload, 1) := by decide +kernel
theorem dX10_runs_24 : decode cX10_runs 24 = .ok (.iconst 1, 1) := by decide +kernel
theorem dX10_runs_25 : decode cX10_runs 25 = .ok (.iadd, 1) := by decide +kernel
theorem dX10_runs_26 : decode cX10_runs 26 = .ok (.irem, 1) := by decide +kernel
theorem dX10_runs_27 : decode cX10_runs 27 = .ok (.iadd, 1) := by decide +kernel
theorem dX10_runs_28 : decode cX10_runs 28 = .ok (.istore_n 3, 1) := by decide +kernel
theorem dX10_runs_29 : decode cX10_runs 29 = .ok (.aload_n 0, 1) := by decide +kernel
theorem dX10_runs_30 : decode cX10_runs 30 = .ok (.getfield 7, 3) := by decide +kernel
theorem dX10_runs_33 : decode cX10_runs 33 = .ok (.iload_n 1, 1) := by decide +kernel
theorem dX10_runs_34 : decode cX10_runs 34 = .ok (.iconst 5, 1) := by decide +kernel
theorem dX10_runs_35 : decode cX10_runs 35 = .ok (.iadd, 1) := by decide +kernel
theorem dX10_runs_36 : decode cX10_runs 36 = .ok (.iload_n 2, 1) := by decide +kernel
theorem dX10_runs_37 : decode cX10_runs 37 = .ok (.iadd, 1) := by decide +kernel
theorem dX10_runs_38 : decode cX10_runs 38 = .ok (.aload_n 0, 1) := by decide +kernel
theorem dX10_runs_39 : decode cX10_runs 39 = .ok (.getfield 7, 3) := by decide +kernel
theorem dX10_runs_42 : decode cX10_runs 42 = .ok (.iload_n 1, 1) := by decide +kernel
theorem dX10_runs_43 : decode cX10_runs 43 = .ok (.iconst 5, 1) := by decide +kernel
theorem dX10_runs_44 : decode cX10_runs 44 = .ok (.iadd, 1) := by decide +kernel
theorem dX10_runs_45 : decode cX10_runs 45 = .ok (.iload_n 2, 1) := by decide +kernel
theorem dX10_runs_46 : decode cX10_runs 46 = .ok (.iadd, 1) := by decide +kernel
theorem dX10_runs_47 : decode cX10_runs 47 = .ok (.iaload, 1) := by decide +kernel
theorem dX10_runs_48 : decode cX10_runs 48 = .ok (.iload_n 3, 1) := by decide +kernel
theorem dX10_runs_49 : decode cX10_runs 49 = .ok (.iadd, 1) := by decide +kernel
theorem dX10_runs_50 : decode cX10_runs 50 = .ok (.aload_n 0, 1) := by decide +kernel
theorem dX10_runs_51 : decode cX10_runs 51 = .ok (.getfield 7, 3) := by decide +kernel
theorem dX10_runs_54 : decode cX10_runs 54 = .ok (.iload_n 1, 1) := by decide +kernel
theorem dX10_runs_55 : decode cX10_runs 55 = .ok (.iconst 1, 1) := by decide +kernel
theorem dX10_runs_56 : decode cX10_runs 56 = .ok (.iadd, 1) := by decide +kernel
theorem dX10_runs_57 : decode cX10_runs 57 = .ok (.iload_n 2, 1) := by decide +kernel
theorem dX10_runs_58 : decode cX10_runs 58 = .ok (.iadd, 1) := by decide +kernel
theorem dX10_runs_59 : decode cX10_runs 59 = .ok (.iaload, 1) := by decide +kernel
theorem dX10_runs_60 : decode cX10_runs 60 = .ok (.irem, 1) := by decide +kernel
theorem dX10_runs_61 : decode cX10_runs 61 = .ok (.iastore, 1) := by decide +kernel
theorem dX10_runs_62 : decode cX10_runs 62 = .ok (.return_, 1) := by decide +kernel
theorem dX10_isHigh_0 : decode cX10_isHigh 0 = .ok (.aload_n 0, 1) := by decide +kernel
theorem dX10_isHigh_1 : decode cX10_isHigh 1 = .ok (.getfield 7, 3) := by decide +kernel
theorem dX10_isHigh_4 : decode cX10_isHigh 4 = .ok (.iload_n 1, 1) := by decide +kernel
theorem dX10_isHigh_5 : decode cX10_isHigh 5 = .ok (.iconst 5, 1) := by decide +kernel
theorem dX10_isHigh_6 : decode cX10_isHigh 6 = .ok (.iadd, 1) := by decide +kernel
theorem dX10_isHigh_7 : decode cX10_isHigh 7 = .ok (.iload_n 2, 1) := by decide +kernel
theorem dX10_isHigh_8 : decode cX10_isHigh 8 = .ok (.iadd, 1) := by decide +kernel
theorem dX10_isHigh_9 : decode cX10_isHigh 9 = .ok (.iaload, 1) := by decide +kernel
theorem dX10_isHigh_10 : decode cX10_isHigh 10 = .ok (.aload_n 0, 1) := by decide +kernel
theorem dX10_isHigh_11 : decode cX10_isHigh 11 = .ok (.getfield 7, 3) := by decide +kernel
theorem dX10_isHigh_14 : decode cX10_isHigh 14 = .ok (.iload_n 1, 1) := by decide +kernel
theorem dX10_isHigh_15 : decode cX10_isHigh 15 = .ok (.iconst 1, 1) := by decide +kernel
theorem dX10_isHigh_16 : decode cX10_isHigh 16 = .ok (.iadd, 1) := by decide +kernel
theorem dX10_isHigh_17 : decode cX10_isHigh 17 = .ok (.iload_n 2, 1) := by decide +kernel
theorem dX10_isHigh_18 : decode cX10_isHigh 18 = .ok (.iadd, 1) := by decide +kernel
theorem dX10_isHigh_19 : decode cX10_isHigh 19 = .ok (.iaload, 1) := by decide +kernel
theorem dX10_isHigh_20 : decode cX10_isHigh 20 = .ok (.iconst 2, 1) := by decide +kernel
theorem dX10_isHigh_21 : decode cX10_isHigh 21 = .ok (.idiv, 1) := by decide +kernel
theorem dX10_isHigh_22 : decode cX10_isHigh 22 = .ok (.if_icmp .ge 7, 3) := by decide +kernel
theorem dX10_isHigh_25 : decode cX10_isHigh 25 = .ok (.iconst 1, 1) := by decide +kernel
theorem dX10_isHigh_26 : decode cX10_isHigh 26 = .ok (.goto 4, 3) := by decide +kernel
theorem dX10_isHigh_29 : decode cX10_isHigh 29 = .ok (.iconst 0, 1) := by decide +kernel
theorem dX10_isHigh_30 : decode cX10_isHigh 30 = .ok (.ireturn, 1) := by decide +kernel
theorem dX10_keeps_0 : decode cX10_keeps 0 = .ok (.aload_n 0, 1) := by decide +kernel
theorem dX10_keeps_1 : decode cX10_keeps 1 = .ok (.getfield 7, 3) := by decide +kernel
theorem dX10_keeps_4 : decode cX10_keeps 4 = .ok (.iload_n 1, 1) := by decide +kernel
theorem dX10_keeps_5 : decode cX10_keeps 5 = .ok (.bipush 28, 2) := by decide +kernel
theorem dX10_keeps_7 : decode cX10_keeps 7 = .ok (.iadd, 1) := by decide +kernel
theorem dX10_keeps_8 : decode cX10_keeps 8 = .ok (.iaload, 1) := by decide +kernel
theorem dX10_keeps_9 : decode cX10_keeps 9 = .ok (.bipush 64, 2) := by decide +kernel
theorem dX10_keeps_11 : decode cX10_keeps 11 = .ok (.if_icmp .ne 54, 3) := by decide +kernel
theorem dX10_keeps_14 : decode cX10_keeps 14 = .ok (.iconst 0, 1) := by decide +kernel
theorem dX10_keeps_15 : decode cX10_keeps 15 = .ok (.istore_n 3, 1) := by decide +kernel
theorem dX10_keeps_16 : decode cX10_keeps 16 = .ok (.iload_n 3, 1) := by decide +kernel
theorem dX10_keeps_17 : decode cX10_keeps 17 = .ok (.bipush 63, 2) := by decide +kernel
theorem dX10_keeps_19 : decode cX10_keeps 19 = .ok (.if_icmp .ge 33, 3) := by decide +kernel
theorem dX10_keeps_22 : decode cX10_keeps 22 = .ok (.aload_n 0, 1) := by decide +kernel
theorem dX10_keeps_23 : decode cX10_keeps 23 = .ok (.getfield 7, 3) := by decide +kernel
theorem dX10_keeps_26 : decode cX10_keeps 26 = .ok (.iload_n 1, 1) := by decide +kernel
theorem dX10_keeps_27 : decode cX10_keeps 27 = .ok (.bipush 29, 2) := by decide +kernel
theorem dX10_keeps_29 : decode cX10_keeps 29 = .ok (.iadd, 1) := by decide +kernel
theorem dX10_keeps_30 : decode cX10_keeps 30 = .ok (.iload_n 3, 1) := by decide +kernel
theorem dX10_keeps_31 : decode cX10_keeps 31 = .ok (.iadd, 1) := by decide +kernel
theorem dX10_keeps_32 : decode cX10_keeps 32 = .ok (.aload_n 0, 1) := by decide +kernel
theorem dX10_keeps_33 : decode cX10_keeps 33 = .ok (.getfield 7, 3) := by decide +kernel
theorem dX10_keeps_36 : decode cX10_keeps 36 = .ok (.iload_n 1, 1) := by decide +kernel
theorem dX10_keeps_37 : decode cX10_keeps 37 = .ok (.bipush 29, 2) := by decide +kernel
theorem dX10_keeps_39 : decode cX10_keeps 39 = .ok (.iadd, 1) := by decide +kernel
theorem dX10_keeps_40 : decode cX10_keeps 40 = .ok (.iload_n 3, 1) := by decide +kernel
theorem dX10_keeps_41 : decode cX10_keeps 41 = .ok (.iadd, 1) := by decide +kernel
theorem dX10_keeps_42 : decode cX10_keeps 42 = .ok (.iconst 1, 1) := by decide +kernel
theorem dX10_keeps_43 : decode cX10_keeps 43 = .ok (.iadd, 1) := by decide +kernel
theorem dX10_keeps_44 : decode cX10_keeps 44 = .ok (.iaload, 1) := by decide +kernel
theorem dX10_keeps_45 : decode cX10_keeps 45 = .ok (.iastore, 1) := by decide +kernel
theorem dX10_keeps_46 : decode cX10_keeps 46 = .ok (.iinc 3 1, 3) := by decide +kernel
theorem dX10_keeps_49 : decode cX10_keeps 49 = .ok (.goto (-33), 3) := by decide +kernel
theorem dX10_keeps_52 : decode cX10_keeps 52 = .ok (.aload_n 0, 1) := by decide +kernel
theorem dX10_keeps_53 : decode cX10_keeps 53 = .ok (.getfield 7, 3) := by decide +kernel
theorem dX10_keeps_56 : decode cX10_keeps 56 = .ok (.iload_n 1, 1) := by decide +kernel
theorem dX10_keeps_57 : decode cX10_keeps 57 = .ok (.bipush 28, 2) := by decide +kernel
theorem dX10_keeps_59 : decode cX10_keeps 59 = .ok (.iadd, 1) := by decide +kernel
theorem dX10_keeps_60 : decode cX10_keeps 60 = .ok (.dup2, 1) := by decide +kernel
theorem dX10_keeps_61 : decode cX10_keeps 61 = .ok (.iaload, 1) := by decide +kernel
theorem dX10_keeps_62 : decode cX10_keeps 62 = .ok (.iconst 1, 1) := by decide +kernel
theorem dX10_keeps_63 : decode cX10_keeps 63 = .ok (.isub, 1) := by decide +kernel
theorem dX10_keeps_64 : decode cX10_keeps 64 = .ok (.iastore, 1) := by decide +kernel
theorem dX10_keeps_65 : decode cX10_keeps 65 = .ok (.aload_n 0, 1) := by decide +kernel
theorem dX10_keeps_66 : decode cX10_keeps 66 = .ok (.getfield 7, 3) := by decide +kernel
theorem dX10_keeps_69 : decode cX10_keeps 69 = .ok (.iload_n 1, 1) := by decide +kernel
theorem dX10_keeps_70 : decode cX10_keeps 70 = .ok (.bipush 29, 2) := by decide +kernel
theorem dX10_keeps_72 : decode cX10_keeps 72 = .ok (.iadd, 1) := by decide +kernel
theorem dX10_keeps_73 : decode cX10_keeps 73 = .ok (.aload_n 0, 1) := by decide +kernel
theorem dX10_keeps_74 : decode cX10_keeps 74 = .ok (.getfield 7, 3) := by decide +kernel
theorem dX10_keeps_77 : decode cX10_keeps 77 = .ok (.iload_n 1, 1) := by decide +kernel
theorem dX10_keeps_78 : decode cX10_keeps 78 = .ok (.bipush 28, 2) := by decide +kernel
theorem dX10_keeps_80 : decode cX10_keeps 80 = .ok (.iadd, 1) := by decide +kernel
theorem dX10_keeps_81 : decode cX10_keeps 81 = .ok (.iaload, 1) := by decide +kernel
theorem dX10_keeps_82 : decode cX10_keeps 82 = .ok (.iadd, 1) := by decide +kernel
theorem dX10_keeps_83 : decode cX10_keeps 83 = .ok (.iload_n 2, 1) := by decide +kernel
theorem dX10_keeps_84 : decode cX10_keeps 84 = .ok (.iastore, 1) := by decide +kernel
theorem dX10_keeps_85 : decode cX10_keeps 85 = .ok (.aload_n 0, 1) := by decide +kernel
theorem dX10_keeps_86 : decode cX10_keeps 86 = .ok (.getfield 7, 3) := by decide +kernel
theorem dX10_keeps_89 : decode cX10_keeps 89 = .ok (.iload_n 1, 1) := by decide +kernel
theorem dX10_keeps_90 : decode cX10_keeps 90 = .ok (.bipush 28, 2) := by decide +kernel
theorem dX10_keeps_92 : decode cX10_keeps 92 = .ok (.iadd, 1) := by decide +kernel
theorem dX10_keeps_93 : decode cX10_keeps 93 = .ok (.dup2, 1) := by decide +kernel
theorem dX10_keeps_94 : decode cX10_keeps 94 = .ok (.iaload, 1) := by decide +kernel
theorem dX10_keeps_95 : decode cX10_keeps 95 = .ok (.iconst 1, 1) := by decide +kernel
theorem dX10_keeps_96 : decode cX10_keeps 96 = .ok (.iadd, 1) := by decide +kernel
theorem dX10_keeps_97 : decode cX10_keeps 97 = .ok (.iastore, 1) := by decide +kernel
theorem dX10_keeps_98 : decode cX10_keeps 98 = .ok (.return_, 1) := by decide +kernel
set_option maxRecDepth 20000 in
theorem ggX10_tests_X10_in : GoodIn wsX10_tests wsX10_in := goodIn_r _ [5] (by decide +kernel) (by decide +kernel)
set_option maxRecDepth 20000 in
theorem gX10_tests_X10_in : GoodIn wsX10_tests (va_wsS RX10 30 yX10_in wsX10_in) := goodIn_app (goodIn_of _ (by decide +kernel)) ggX10_tests_X10_in
theorem dX10_tests_0 : decode cX10_tests 0 = .ok (.aload_n 0, 1) := by decide +kernel
theorem dX10_tests_1 : decode cX10_tests 1 = .ok (.getfield 7, 3) := by decide +kernel
theorem dX10_tests_4 : decode cX10_tests 4 = .ok (.iload_n 1, 1) := by decide +kernel
theorem dX10_tests_5 : decode cX10_tests 5 = .ok (.bipush 14, 2) := by decide +kernel
theorem dX10_tests_7 : decode cX10_tests 7 = .ok (.iadd, 1) := by decide +kernel
theorem dX10_tests_8 : decode cX10_tests 8 = .ok (.aload_n 0, 1) := by decide +kernel
theorem dX10_tests_9 : decode cX10_tests 9 = .ok (.getfield 7, 3) := by decide +kernel
theorem dX10_tests_12 : decode cX10_tests 12 = .ok (.iload_n 1, 1) := by decide +kernel
theorem dX10_tests_13 : decode cX10_tests 13 = .ok (.bipush 14, 2) := by decide +kernel
theorem dX10_tests_15 : decode cX10_tests 15 = .ok (.iadd, 1) := by decide +kernel
theorem dX10_tests_16 : decode cX10_tests 16 = .ok (.iaload, 1) := by decide +kernel
theorem dX10_tests_17 : decode cX10_tests 17 = .ok (.ifCond .le 30, 3) := by decide +kernel
theorem dX10_tests_20 : decode cX10_tests 20 = .ok (.aload_n 0, 1) := by decide +kernel
theorem dX10_tests_21 : decode cX10_tests 21 = .ok (.getfield 7, 3) := by decide +kernel
theorem dX10_tests_24 : decode cX10_tests 24 = .ok (.iload_n 1, 1) := by decide +kernel
theorem dX10_tests_25 : decode cX10_tests 25 = .ok (.bipush 15, 2) := by decide +kernel
theorem dX10_tests_27 : decode cX10_tests 27 = .ok (.iadd, 1) := by decide +kernel
theorem dX10_tests_28 : decode cX10_tests 28 = .ok (.iaload, 1) := by decide +kernel
theorem dX10_tests_29 : decode cX10_tests 29 = .ok (.iload_n 2, 1) := by decide +kernel
theorem dX10_tests_30 : decode cX10_tests 30 = .ok (.if_icmp .ne 17, 3) := by decide +kernel
theorem dX10_tests_33 : decode cX10_tests 33 = .ok (.aload_n 0, 1) := by decide +kernel
theorem dX10_tests_34 : decode cX10_tests 34 = .ok (.getfield 7, 3) := by decide +kernel
theorem dX10_tests_37 : decode cX10_tests 37 = .ok (.iload_n 1, 1) := by decide +kernel
theorem dX10_tests_38 : decode cX10_tests 38 = .ok (.bipush 14, 2) := by decide +kernel
theorem dX10_tests_40 : decode cX10_tests 40 = .ok (.iadd, 1) := by decide +kernel
theorem dX10_tests_41 : decode cX10_tests 41 = .ok (.iaload, 1) := by decide +kernel
theorem dX10_tests_42 : decode cX10_tests 42 = .ok (.iconst 1, 1) := by decide +kernel
theorem dX10_tests_43 : decode cX10_tests 43 = .ok (.iadd, 1) := by decide +kernel
theorem dX10_tests_44 : decode cX10_tests 44 = .ok (.goto 4, 3) := by decide +kernel
theorem dX10_tests_47 : decode cX10_tests 47 = .ok (.iconst 1, 1) := by decide +kernel
theorem dX10_tests_48 : decode cX10_tests 48 = .ok (.iastore, 1) := by decide +kernel
theorem dX10_tests_49 : decode cX10_tests 49 = .ok (.aload_n 0, 1) := by decide +kernel
theorem dX10_tests_50 : decode cX10_tests 50 = .ok (.getfield 7, 3) := by decide +kernel
theorem dX10_tests_53 : decode cX10_tests 53 = .ok (.iload_n 1, 1) := by decide +kernel
theorem dX10_tests_54 : decode cX10_tests 54 = .ok (.bipush 15, 2) := by decide +kernel
theorem dX10_tests_56 : decode cX10_tests 56 = .ok (.iadd, 1) := by decide +kernel
theorem dX10_tests_57 : decode cX10_tests 57 = .ok (.iload_n 2, 1) := by decide +kernel
theorem dX10_tests_58 : decode cX10_tests 58 = .ok (.iastore, 1) := by decide +kernel
theorem dX10_tests_59 : decode cX10_tests 59 = .ok (.aload_n 0, 1) := by decide +kernel
theorem dX10_tests_60 : decode cX10_tests 60 = .ok (.getfield 7, 3) := by decide +kernel
theorem dX10_tests_63 : decode cX10_tests 63 = .ok (.iload_n 1, 1) := by decide +kernel
theorem dX10_tests_64 : decode cX10_tests 64 = .ok (.bipush 27, 2) := by decide +kernel
theorem dX10_tests_66 : decode cX10_tests 66 = .ok (.iadd, 1) := by decide +kernel
theorem dX10_tests_67 : decode cX10_tests 67 = .ok (.aload_n 0, 1) := by decide +kernel
theorem dX10_tests_68 : decode cX10_tests 68 = .ok (.getfield 7, 3) := by decide +kernel
theorem dX10_tests_71 : decode cX10_tests 71 = .ok (.iload_n 1, 1) := by decide +kernel
theorem dX10_tests_72 : decode cX10_tests 72 = .ok (.bipush 14, 2) := by decide +kernel
theorem dX10_tests_74 : decode cX10_tests 74 = .ok (.iadd, 1) := by decide +kernel
theorem dX10_tests_75 : decode cX10_tests 75 = .ok (.iaload, 1) := by decide +kernel
theorem dX10_tests_76 : decode cX10_tests 76 = .ok (.aload_n 0, 1) := by decide +kernel
theorem dX10_tests_77 : decode cX10_tests 77 = .ok (.getfield 7, 3) := by decide +kernel
theorem dX10_tests_80 : decode cX10_tests 80 = .ok (.iload_n 1, 1) := by decide +kernel
theorem dX10_tests_81 : decode cX10_tests 81 = .ok (.bipush 27, 2) := by decide +kernel
theorem dX10_tests_83 : decode cX10_tests 83 = .ok (.iadd, 1) := by decide +kernel
theorem dX10_tests_84 : decode cX10_tests 84 = .ok (.iaload, 1) := by decide +kernel
theorem dX10_tests_85 : decode cX10_tests 85 = .ok (.if_icmp .le 15, 3) := by decide +kernel
theorem dX10_tests_88 : decode cX10_tests 88 = .ok (.aload_n 0, 1) := by decide +kernel
theorem dX10_tests_89 : decode cX10_tests 89 = .ok (.getfield 7, 3) := by decide +kernel
theorem dX10_tests_92 : decode cX10_tests 92 = .ok (.iload_n 1, 1) := by decide +kernel
theorem dX10_tests_93 : decode cX10_tests 93 = .ok (.bipush 14, 2) := by decide +kernel
theorem dX10_tests_95 : decode cX10_tests 95 = .ok (.iadd, 1) := by decide +kernel
theorem dX10_tests_96 : decode cX10_tests 96 = .ok (.iaload, 1) := by decide +kernel
theorem dX10_tests_97 : decode cX10_tests 97 = .ok (.goto 12, 3) := by decide +kernel
theorem dX10_tests_100 : decode cX10_tests 100 = .ok (.aload_n 0, 1) := by decide +kernel
theorem dX10_tests_101 : decode cX10_tests 101 = .ok (.getfield 7, 3) := by decide +kernel
theorem dX10_tests_104 : decode cX10_tests 104 = .ok (.iload_n 1, 1) := by decide +kernel
theorem dX10_tests_105 : decode cX10_tests 105 = .ok (.bipush 27, 2) := by decide +kernel
theorem dX10_tests_107 : decode cX10_tests 107 = .ok (.iadd, 1) := by decide +kernel
theorem dX10_tests_108 : decode cX10_tests 108 = .ok (.iaload, 1) := by decide +kernel
theorem dX10_tests_109 : decode cX10_tests 109 = .ok (.iastore, 1) := by decide +kernel
theorem dX10_tests_110 : decode cX10_tests 110 = .ok (.aload_n 0, 1) := by decide +kernel
theorem dX10_tests_111 : decode cX10_tests 111 = .ok (.getfield 7, 3) := by decide +kernel
theorem dX10_tests_114 : decode cX10_tests 114 = .ok (.iload_n 1, 1) := by decide +kernel
theorem dX10_tests_115 : decode cX10_tests 115 = .ok (.bipush 16, 2) := by decide +kernel
theorem dX10_tests_117 : decode cX10_tests 117 = .ok (.iadd, 1) := by decide +kernel
theorem dX10_tests_118 : decode cX10_tests 118 = .ok (.dup2, 1) := by decide +kernel
theorem dX10_tests_119 : decode cX10_tests 119 = .ok (.iaload, 1) := by decide +kernel
theorem dX10_tests_120 : decode cX10_tests 120 = .ok (.iconst 1, 1) := by decide +kernel
theorem dX10_tests_121 : decode cX10_tests 121 = .ok (.iadd, 1) := by decide +kernel
theorem dX10_tests_122 : decode cX10_tests 122 = .ok (.iastore, 1) := by decide +kernel
theorem dX10_tests_123 : decode cX10_tests 123 = .ok (.aload_n 0, 1) := by decide +kernel
theorem dX10_tests_124 : decode cX10_tests 124 = .ok (.getfield 7, 3) := by decide +kernel
theorem dX10_tests_127 : decode cX10_tests 127 = .ok (.iload_n 1, 1) := by decide +kernel
theorem dX10_tests_128 : decode cX10_tests 128 = .ok (.bipush 17, 2) := by decide +kernel
theorem dX10_tests_130 : decode cX10_tests 130 = .ok (.iadd, 1) := by decide +kernel
theorem dX10_tests_131 : decode cX10_tests 131 = .ok (.dup2, 1) := by decide +kernel
theorem dX10_tests_132 : decode cX10_tests 132 = .ok (.iaload, 1) := by decide +kernel
theorem dX10_tests_133 : decode cX10_tests 133 = .ok (.iload_n 2, 1) := by decide +kernel
theorem dX10_tests_134 : decode cX10_tests 134 = .ok (.iadd, 1) := by decide +kernel
theorem dX10_tests_135 : decode cX10_tests 135 = .ok (.iastore, 1) := by decide +kernel
theorem dX10_tests_136 : decode cX10_tests 136 = .ok (.aload_n 0, 1) := by decide +kernel
theorem dX10_tests_137 : decode cX10_tests 137 = .ok (.getfield 7, 3) := by decide +kernel
theorem dX10_tests_140 : decode cX10_tests 140 = .ok (.iload_n 1, 1) := by decide +kernel
theorem dX10_tests_141 : decode cX10_tests 141 = .ok (.bipush 16, 2) := by decide +kernel
theorem dX10_tests_143 : decode cX10_tests 143 = .ok (.iadd, 1) := by decide +kernel
theorem dX10_tests_144 : decode cX10_tests 144 = .ok (.iaload, 1) := by decide +kernel
theorem dX10_tests_145 : decode cX10_tests 145 = .ok (.bipush 32, 2) := by decide +kernel
theorem dX10_tests_147 : decode cX10_tests 147 = .ok (.if_icmp .ne 7, 3) := by decide +kernel
theorem dX10_tests_150 : decode cX10_tests 150 = .ok (.iconst 1, 1) := by decide +kernel
theorem dX10_tests_151 : decode cX10_tests 151 = .ok (.goto 4, 3) := by decide +kernel
theorem dX10_tests_154 : decode cX10_tests 154 = .ok (.iconst 0, 1) := by decide +kernel
theorem dX10_tests_155 : decode cX10_tests 155 = .ok (.istore_n 3, 1) := by decide +kernel
theorem dX10_tests_156 : decode cX10_tests 156 = .ok (.iload_n 3, 1) := by decide +kernel
theorem dX10_tests_157 : decode cX10_tests 157 = .ok (.ifCond .eq 47, 3) := by decide +kernel
theorem dX10_tests_160 : decode cX10_tests 160 = .ok (.aload_n 0, 1) := by decide +kernel
theorem dX10_tests_161 : decode cX10_tests 161 = .ok (.getfield 7, 3) := by decide +kernel
theorem dX10_tests_164 : decode cX10_tests 164 = .ok (.iload_n 1, 1) := by decide +kernel
theorem dX10_tests_165 : decode cX10_tests 165 = .ok (.bipush 17, 2) := by decide +kernel
theorem dX10_tests_167 : decode cX10_tests 167 = .ok (.iadd, 1) := by decide +kernel
theorem dX10_tests_168 : decode cX10_tests 168 = .ok (.iaload, 1) := by decide +kernel
theorem dX10_tests_169 : decode cX10_tests 169 = .ok (.aload_n 0, 1) := by decide +kernel
theorem dX10_tests_170 : decode cX10_tests 170 = .ok (.getfield 7, 3) := by decide +kernel
theorem dX10_tests_173 : decode cX10_tests 173 = .ok (.iload_n 1, 1) := by decide +kernel
theorem dX10_tests_174 : decode cX10_tests 174 = .ok (.bipush 7, 2) := by decide +kernel
theorem dX10_tests_176 : decode cX10_tests 176 = .ok (.iadd, 1) := by decide +kernel
theorem dX10_tests_177 : decode cX10_tests 177 = .ok (.iconst 3, 1) := by decide +kernel
theorem dX10_tests_178 : decode cX10_tests 178 = .ok (.iadd, 1) := by decide +kernel
theorem dX10_tests_179 : decode cX10_tests 179 = .ok (.iaload, 1) := by decide +kernel
theorem dX10_tests_180 : decode cX10_tests 180 = .ok (.bipush 32, 2) := by decide +kernel
theorem dX10_tests_182 : decode cX10_tests 182 = .ok (.aload_n 0, 1) := by decide +kernel
theorem dX10_tests_183 : decode cX10_tests 183 = .ok (.getfield 7, 3) := by decide +kernel
theorem dX10_tests_186 : decode cX10_tests 186 = .ok (.iload_n 1, 1) := by decide +kernel
theorem dX10_tests_187 : decode cX10_tests 187 = .ok (.bipush 7, 2) := by decide +kernel
theorem dX10_tests_189 : decode cX10_tests 189 = .ok (.iadd, 1) := by decide +kernel
theorem dX10_tests_190 : decode cX10_tests 190 = .ok (.iconst 3, 1) := by decide +kernel
theorem dX10_tests_191 : decode cX10_tests 191 = .ok (.iadd, 1) := by decide +kernel
theorem dX10_tests_192 : decode cX10_tests 192 = .ok (.iaload, 1) := by decide +kernel
theorem dX10_tests_193 : decode cX10_tests 193 = .ok (.isub, 1) := by decide +kernel
theorem dX10_tests_194 : decode cX10_tests 194 = .ok (.invokestatic 30, 3) := by decide +kernel
theorem dX10_tests_197 : decode cX10_tests 197 = .ok (.ifCond .ne 7, 3) := by decide +kernel
theorem dX10_tests_200 : decode cX10_tests 200 = .ok (.iconst 1, 1) := by decide +kernel
theorem dX10_tests_201 : decode cX10_tests 201 = .ok (.goto 4, 3) := by decide +kernel
theorem dX10_tests_204 : decode cX10_tests 204 = .ok (.iconst 0, 1) := by decide +kernel
theorem dX10_tests_205 : decode cX10_tests 205 = .ok (.istore 4, 2) := by decide +kernel
theorem dX10_tests_207 : decode cX10_tests 207 = .ok (.iload_n 3, 1) := by decide +kernel
theorem dX10_tests_208 : decode cX10_tests 208 = .ok (.ifCond .eq 23, 3) := by decide +kernel
theorem dX10_tests_211 : decode cX10_tests 211 = .ok (.aload_n 0, 1) := by decide +kernel
theorem dX10_tests_212 : decode cX10_tests 212 = .ok (.getfield 7, 3) := by decide +kernel
theorem dX10_tests_215 : decode cX10_tests 215 = .ok (.iload_n 1, 1) := by decide +kernel
theorem dX10_tests_216 : decode cX10_tests 216 = .ok (.bipush 16, 2) := by decide +kernel
theorem dX10_tests_218 : decode cX10_tests 218 = .ok (.iadd, 1) := by decide +kernel
theorem dX10_tests_219 : decode cX10_tests 219 = .ok (.iconst 0, 1) := by decide +kernel
theorem dX10_tests_220 : decode cX10_tests 220 = .ok (.iastore, 1) := by decide +kernel
theorem dX10_tests_221 : decode cX10_tests 221 = .ok (.aload_n 0, 1) := by decide +kernel
theorem dX10_tests_222 : decode cX10_tests 222 = .ok (.getfield 7, 3) := by decide +kernel
theorem dX10_tests_225 : decode cX10_tests 225 = .ok (.iload_n 1, 1) := by decide +kernel
theorem dX10_tests_226 : decode cX10_tests 226 = .ok (.bipush 17, 2) := by decide +kernel
theorem dX10_tests_228 : decode cX10_tests 228 = .ok (.iadd, 1) := by decide +kernel
theorem dX10_tests_229 : decode cX10_tests 229 = .ok (.iconst 0, 1) := by decide +kernel
theorem dX10_tests_230 : decode cX10_tests 230 = .ok (.iastore, 1) := by decide +kernel
theorem dX10_tests_231 : decode cX10_tests 231 = .ok (.aload_n 0, 1) := by decide +kernel
theorem dX10_tests_232 : decode cX10_tests 232 = .ok (.getfield 7, 3) := by decide +kernel
theorem dX10_tests_235 : decode cX10_tests 235 = .ok (.iload_n 1, 1) := by decide +kernel
theorem dX10_tests_236 : decode cX10_tests 236 = .ok (.bipush 14, 2) := by decide +kernel
theorem dX10_tests_238 : decode cX10_tests 238 = .ok (.iadd, 1) := by decide +kernel
theorem dX10_tests_239 : decode cX10_tests 239 = .ok (.iaload, 1) := by decide +kernel
theorem dX10_tests_240 : decode cX10_tests 240 = .ok (.aload_n 0, 1) := by decide +kernel
theorem dX10_tests_241 : decode cX10_tests 241 = .ok (.getfield 7, 3) := by decide +kernel
theorem dX10_tests_244 : decode cX10_tests 244 = .ok (.iload_n 1, 1) := by decide +kernel
theorem dX10_tests_245 : decode cX10_tests 245 = .ok (.bipush 7, 2) := by decide +kernel
theorem dX10_tests_247 : decode cX10_tests 247 = .ok (.iadd, 1) := by decide +kernel
theorem dX10_tests_248 : decode cX10_tests 248 = .ok (.iconst 2, 1) := by decide +kernel
theorem dX10_tests_249 : decode cX10_tests 249 = .ok (.iadd, 1) := by decide +kernel
theorem dX10_tests_250 : decode cX10_tests 250 = .ok (.iaload, 1) := by decide +kernel
theorem dX10_tests_251 : decode cX10_tests 251 = .ok (.if_icmp .le 7, 3) := by decide +kernel
theorem dX10_tests_254 : decode cX10_tests 254 = .ok (.iconst 1, 1) := by decide +kernel
theorem dX10_tests_255 : decode cX10_tests 255 = .ok (.goto 13, 3) := by decide +kernel
theorem dX10_tests_258 : decode cX10_tests 258 = .ok (.iload 4, 2) := by decide +kernel
theorem dX10_tests_260 : decode cX10_tests 260 = .ok (.ifCond .eq 7, 3) := by decide +kernel
theorem dX10_tests_263 : decode cX10_tests 263 = .ok (.iconst 2, 1) := by decide +kernel
theorem dX10_tests_264 : decode cX10_tests 264 = .ok (.goto 4, 3) := by decide +kernel
theorem dX10_tests_267 : decode cX10_tests 267 = .ok (.iconst 0, 1) := by decide +kernel
theorem dX10_tests_268 : decode cX10_tests 268 = .ok (.ireturn, 1) := by decide +kernel
theorem dX10_takesOne_0 : decode cX10_takesOne 0 = .ok (.aload_n 0, 1) := by decide +kernel
theorem dX10_takesOne_1 : decode cX10_takesOne 1 = .ok (.getfield 7, 3) := by decide +kernel
theorem dX10_takesOne_4 : decode cX10_takesOne 4 = .ok (.iload_n 1, 1) := by decide +kernel
theorem dX10_takesOne_5 : decode cX10_takesOne 5 = .ok (.bipush 19, 2) := by decide +kernel
theorem dX10_takesOne_7 : decode cX10_takesOne 7 = .ok (.iadd, 1) := by decide +kernel
theorem dX10_takesOne_8 : decode cX10_takesOne 8 = .ok (.iaload, 1) := by decide +kernel
theorem dX10_takesOne_9 : decode cX10_takesOne 9 = .ok (.ifCond .ge 14, 3) := by decide +kernel
theorem dX10_takesOne_12 : decode cX10_takesOne 12 = .ok (.aload_n 0, 1) := by decide +kernel
theorem dX10_takesOne_13 : decode cX10_takesOne 13 = .ok (.getfield 7, 3) := by decide +kernel
theorem dX10_takesOne_16 : decode cX10_takesOne 16 = .ok (.iload_n 1, 1) := by decide +kernel
theorem dX10_takesOne_17 : decode cX10_takesOne 17 = .ok (.bipush 19, 2) := by decide +kernel
theorem dX10_takesOne_19 : decode cX10_takesOne 19 = .ok (.iadd, 1) := by decide +kernel
theorem dX10_takesOne_20 : decode cX10_takesOne 20 = .ok (.iload_n 2, 1) := by decide +kernel
theorem dX10_takesOne_21 : decode cX10_takesOne 21 = .ok (.iastore, 1) := by decide +kernel
theorem dX10_takesOne_22 : decode cX10_takesOne 22 = .ok (.return_, 1) := by decide +kernel
theorem dX10_takesOne_23 : decode cX10_takesOne 23 = .ok (.aload_n 0, 1) := by decide +kernel
theorem dX10_takesOne_24 : decode cX10_takesOne 24 = .ok (.getfield 7, 3) := by decide +kernel
theorem dX10_takesOne_27 : decode cX10_takesOne 27 = .ok (.iload_n 1, 1) := by decide +kernel
theorem dX10_takesOne_28 : decode cX10_takesOne 28 = .ok (.bipush 19, 2) := by decide +kernel
theorem dX10_takesOne_30 : decode cX10_takesOne 30 = .ok (.iadd, 1) := by decide +kernel
theorem dX10_takesOne_31 : decode cX10_takesOne 31 = .ok (.iaload, 1) := by decide +kernel
theorem dX10_takesOne_32 : decode cX10_takesOne 32 = .ok (.iload_n 2, 1) := by decide +kernel
theorem dX10_takesOne_33 : decode cX10_takesOne 33 = .ok (.if_icmp .ne 19, 3) := by decide +kernel
theorem dX10_takesOne_36 : decode cX10_takesOne 36 = .ok (.aload_n 0, 1) := by decide +kernel
theorem dX10_takesOne_37 : decode cX10_takesOne 37 = .ok (.getfield 7, 3) := by decide +kernel
theorem dX10_takesOne_40 : decode cX10_takesOne 40 = .ok (.iload_n 1, 1) := by decide +kernel
theorem dX10_takesOne_41 : decode cX10_takesOne 41 = .ok (.bipush 22, 2) := by decide +kernel
theorem dX10_takesOne_43 : decode cX10_takesOne 43 = .ok (.iadd, 1) := by decide +kernel
theorem dX10_takesOne_44 : decode cX10_takesOne 44 = .ok (.dup2, 1) := by decide +kernel
theorem dX10_takesOne_45 : decode cX10_takesOne 45 = .ok (.iaload, 1) := by decide +kernel
theorem dX10_takesOne_46 : decode cX10_takesOne 46 = .ok (.iconst 1, 1) := by decide +kernel
theorem dX10_takesOne_47 : decode cX10_takesOne 47 = .ok (.iadd, 1) := by decide +kernel
theorem dX10_takesOne_48 : decode cX10_takesOne 48 = .ok (.iastore, 1) := by decide +kernel
theorem dX10_takesOne_49 : decode cX10_takesOne 49 = .ok (.goto 87, 3) := by decide +kernel
theorem dX10_takesOne_52 : decode cX10_takesOne 52 = .ok (.aload_n 0, 1) := by decide +kernel
theorem dX10_takesOne_53 : decode cX10_takesOne 53 = .ok (.getfield 7, 3) := by decide +kernel
theorem dX10_takesOne_56 : decode cX10_takesOne 56 = .ok (.iload_n 1, 1) := by decide +kernel
theorem dX10_takesOne_57 : decode cX10_takesOne 57 = .ok (.bipush 18, 2) := by decide +kernel
theorem dX10_takesOne_59 : decode cX10_takesOne 59 = .ok (.iadd, 1) := by decide +kernel
theorem dX10_takesOne_60 : decode cX10_takesOne 60 = .ok (.iaload, 1) := by decide +kernel
theorem dX10_takesOne_61 : decode cX10_takesOne 61 = .ok (.bipush 64, 2) := by decide +kernel
theorem dX10_takesOne_63 : decode cX10_takesOne 63 = .ok (.if_icmp .ne 19, 3) := by decide +kernel
theorem dX10_takesOne_66 : decode cX10_takesOne 66 = .ok (.aload_n 0, 1) := by decide +kernel
theorem dX10_takesOne_67 : decode cX10_takesOne 67 = .ok (.getfield 7, 3) := by decide +kernel
theorem dX10_takesOne_70 : decode cX10_takesOne 70 = .ok (.iload_n 1, 1) := by decide +kernel
theorem dX10_takesOne_71 : decode cX10_takesOne 71 = .ok (.bipush 24, 2) := by decide +kernel
theorem dX10_takesOne_73 : decode cX10_takesOne 73 = .ok (.iadd, 1) := by decide +kernel
theorem dX10_takesOne_74 : decode cX10_takesOne 74 = .ok (.dup2, 1) := by decide +kernel
theorem dX10_takesOne_75 : decode cX10_takesOne 75 = .ok (.iaload, 1) := by decide +kernel
theorem dX10_takesOne_76 : decode cX10_takesOne 76 = .ok (.iconst 1, 1) := by decide +kernel
theorem dX10_takesOne_77 : decode cX10_takesOne 77 = .ok (.iadd, 1) := by decide +kernel
theorem dX10_takesOne_78 : decode cX10_takesOne 78 = .ok (.iastore, 1) := by decide +kernel
theorem dX10_takesOne_79 : decode cX10_takesOne 79 = .ok (.goto 57, 3) := by decide +kernel
theorem dX10_takesOne_82 : decode cX10_takesOne 82 = .ok (.aload_n 0, 1) := by decide +kernel
theorem dX10_takesOne_83 : decode cX10_takesOne 83 = .ok (.getfield 7, 3) := by decide +kernel
theorem dX10_takesOne_86 : decode cX10_takesOne 86 = .ok (.iload_n 1, 1) := by decide +kernel
theorem dX10_takesOne_87 : decode cX10_takesOne 87 = .ok (.bipush 93, 2) := by decide +kernel
theorem dX10_takesOne_89 : decode cX10_takesOne 89 = .ok (.iadd, 1) := by decide +kernel
theorem dX10_takesOne_90 : decode cX10_takesOne 90 = .ok (.aload_n 0, 1) := by decide +kernel
theorem dX10_takesOne_91 : decode cX10_takesOne 91 = .ok (.getfield 7, 3) := by decide +kernel
theorem dX10_takesOne_94 : decode cX10_takesOne 94 = .ok (.iload_n 1, 1) := by decide +kernel
theorem dX10_takesOne_95 : decode cX10_takesOne 95 = .ok (.bipush 18, 2) := by decide +kernel
theorem dX10_takesOne_97 : decode cX10_takesOne 97 = .ok (.iadd, 1) := by decide +kernel
theorem dX10_takesOne_98 : decode cX10_takesOne 98 = .ok (.iaload, 1) := by decide +kernel
theorem dX10_takesOne_99 : decode cX10_takesOne 99 = .ok (.iadd, 1) := by decide +kernel
theorem dX10_takesOne_100 : decode cX10_takesOne 100 = .ok (.aload_n 0, 1) := by decide +kernel
theorem dX10_takesOne_101 : decode cX10_takesOne 101 = .ok (.getfield 7, 3) := by decide +kernel
theorem dX10_takesOne_104 : decode cX10_takesOne 104 = .ok (.iload_n 1, 1) := by decide +kernel
theorem dX10_takesOne_105 : decode cX10_takesOne 105 = .ok (.bipush 19, 2) := by decide +kernel
theorem dX10_takesOne_107 : decode cX10_takesOne 107 = .ok (.iadd, 1) := by decide +kernel
theorem dX10_takesOne_108 : decode cX10_takesOne 108 = .ok (.iaload, 1) := by decide +kernel
theorem dX10_takesOne_109 : decode cX10_takesOne 109 = .ok (.iastore, 1) := by decide +kernel
theorem dX10_takesOne_110 : decode cX10_takesOne 110 = .ok (.aload_n 0, 1) := by decide +kernel
theorem dX10_takesOne_111 : decode cX10_takesOne 111 = .ok (.getfield 7, 3) := by decide +kernel
theorem dX10_takesOne_114 : decode cX10_takesOne 114 = .ok (.iload_n 1, 1) := by decide +kernel
theorem dX10_takesOne_115 : decode cX10_takesOne 115 = .ok (.bipush 18, 2) := by decide +kernel
theorem dX10_takesOne_117 : decode cX10_takesOne 117 = .ok (.iadd, 1) := by decide +kernel
theorem dX10_takesOne_118 : decode cX10_takesOne 118 = .ok (.dup2, 1) := by decide +kernel
theorem dX10_takesOne_119 : decode cX10_takesOne 119 = .ok (.iaload, 1) := by decide +kernel
theorem dX10_takesOne_120 : decode cX10_takesOne 120 = .ok (.iconst 1, 1) := by decide +kernel
theorem dX10_takesOne_121 : decode cX10_takesOne 121 = .ok (.iadd, 1) := by decide +kernel
theorem dX10_takesOne_122 : decode cX10_takesOne 122 = .ok (.iastore, 1) := by decide +kernel
theorem dX10_takesOne_123 : decode cX10_takesOne 123 = .ok (.aload_n 0, 1) := by decide +kernel
theorem dX10_takesOne_124 : decode cX10_takesOne 124 = .ok (.getfield 7, 3) := by decide +kernel
theorem dX10_takesOne_127 : decode cX10_takesOne 127 = .ok (.iload_n 1, 1) := by decide +kernel
theorem dX10_takesOne_128 : decode cX10_takesOne 128 = .ok (.bipush 23, 2) := by decide +kernel
theorem dX10_takesOne_130 : decode cX10_takesOne 130 = .ok (.iadd, 1) := by decide +kernel
theorem dX10_takesOne_131 : decode cX10_takesOne 131 = .ok (.dup2, 1) := by decide +kernel
theorem dX10_takesOne_132 : decode cX10_takesOne 132 = .ok (.iaload, 1) := by decide +kernel
theorem dX10_takesOne_133 : decode cX10_takesOne 133 = .ok (.iconst 1, 1) := by decide +kernel
theorem dX10_takesOne_134 : decode cX10_takesOne 134 = .ok (.iadd, 1) := by decide +kernel
theorem dX10_takesOne_135 : decode cX10_takesOne 135 = .ok (.iastore, 1) := by decide +kernel
theorem dX10_takesOne_136 : decode cX10_takesOne 136 = .ok (.aload_n 0, 1) := by decide +kernel
theorem dX10_takesOne_137 : decode cX10_takesOne 137 = .ok (.getfield 7, 3) := by decide +kernel
theorem dX10_takesOne_140 : decode cX10_takesOne 140 = .ok (.iload_n 1, 1) := by decide +kernel
theorem dX10_takesOne_141 : decode cX10_takesOne 141 = .ok (.bipush 19, 2) := by decide +kernel
theorem dX10_takesOne_143 : decode cX10_takesOne 143 = .ok (.iadd, 1) := by decide +kernel
theorem dX10_takesOne_144 : decode cX10_takesOne 144 = .ok (.iconst (-1), 1) := by decide +kernel
theorem dX10_takesOne_145 : decode cX10_takesOne 145 = .ok (.iastore, 1) := by decide +kernel
theorem dX10_takesOne_146 : decode cX10_takesOne 146 = .ok (.return_, 1) := by decide +kernel
set_option maxRecDepth 20000 in
theorem ggX10_samples_X10_runs : GoodIn wsX10_samples wsX10_runs := goodIn_r _ [6, 1, 7, 8, 9, 5, 10, 11, 35, 36, 37, 38, 39, 40, 41, 42, 43] (by decide +kernel) (by decide +kernel)
set_option maxRecDepth 20000 in
theorem gX10_samples_X10_runs : GoodIn wsX10_samples (wsV RX10 34 RX10 yX10_runs wsX10_runs) := goodIn_app (goodIn_of _ (by decide +kernel)) ggX10_samples_X10_runs
set_option maxRecDepth 20000 in
theorem ggX10_samples_X10_locks : GoodIn wsX10_samples wsX10_locks := goodIn_r _ [15, 1, 35, 36, 37, 38, 39, 40, 41, 42, 43] (by decide +kernel) (by decide +kernel)
set_option maxRecDepth 20000 in
theorem gX10_samples_X10_locks : GoodIn wsX10_samples (wsV RX10 37 RX10 yX10_locks wsX10_locks) := goodIn_app (goodIn_of _ (by decide +kernel)) ggX10_samples_X10_locks
set_option maxRecDepth 20000 in
theorem ggX10_samples_X10_isHigh : GoodIn wsX10_samples wsX10_isHigh := goodIn_r _ [19, 1, 35, 36, 37, 38, 39, 40, 41, 42, 43] (by decide +kernel) (by decide +kernel)
set_option maxRecDepth 20000 in
theorem gX10_samples_X10_isHigh : GoodIn wsX10_samples (wsV RX10 41 RX10 yX10_isHigh wsX10_isHigh) := goodIn_app (goodIn_of _ (by decide +kernel)) ggX10_samples_X10_isHigh
set_option maxRecDepth 20000 in
theorem ggX10_samples_X10_keeps : GoodIn wsX10_samples wsX10_keeps := goodIn_r _ [23, 1, 35, 36, 37, 38, 39, 40, 41, 42, 43] (by decide +kernel) (by decide +kernel)
set_option maxRecDepth 20000 in
theorem gX10_samples_X10_keeps : GoodIn wsX10_samples (wsV RX10 45 RX10 yX10_keeps wsX10_keeps) := goodIn_app (goodIn_of _ (by decide +kernel)) ggX10_samples_X10_keeps
set_option maxRecDepth 20000 in
theorem ggX10_samples_X10_tests : GoodIn wsX10_samples wsX10_tests := goodIn_r _ [27, 1, 28, 29, 5, 30, 35, 36, 37, 38, 39, 40, 41, 42, 43] (by decide +kernel) (by decide +kernel)
set_option maxRecDepth 20000 in
theorem gX10_samples_X10_tests : GoodIn wsX10_samples (wsV RX10 48 RX10 yX10_tests wsX10_tests) := goodIn_app (goodIn_of _ (by decide +kernel)) ggX10_samples_X10_tests
set_option maxRecDepth 20000 in
theorem ggX10_samples_X10_takesOne : GoodIn wsX10_samples wsX10_takesOne := goodIn_r _ [34, 1, 35, 36, 37, 38, 39, 40, 41, 42, 43] (by decide +kernel) (by decide +kernel)
set_option maxRecDepth 20000 in
theorem gX10_samples_X10_takesOne : GoodIn wsX10_samples (wsV RX10 52 RX10 yX10_takesOne wsX10_takesOne) := goodIn_app (goodIn_of _ (by decide +kernel)) ggX10_samples_X10_takesOne
theorem dX10_samples_0 : decode cX10_samples 0 = .ok (.aload_n 0, 1) := by decide +kernel
theorem dX10_samples_1 : decode cX10_samples 1 = .ok (.iload_n 1, 1) := by decide +kernel
theorem dX10_samples_2 : decode cX10_samples 2 = .ok (.iconst 0, 1) := by decide +kernel
theorem dX10_samples_3 : decode cX10_samples 3 = .ok (.invokevirtual 34, 3) := by decide +kernel
theorem dX10_samples_6 : decode cX10_samples 6 = .ok (.aload_n 0, 1) := by decide +kernel
theorem dX10_samples_7 : decode cX10_samples 7 = .ok (.iload_n 1, 1) := by decide +kernel
theorem dX10_samples_8 : decode cX10_samples 8 = .ok (.invokevirtual 37, 3) := by decide +kernel
theorem dX10_samples_11 : decode cX10_samples 11 = .ok (.ifCond .eq 35, 3) := by decide +kernel
theorem dX10_samples_14 : decode cX10_samples 14 = .ok (.aload_n 0, 1) := by decide +kernel
theorem dX10_samples_15 : decode cX10_samples 15 = .ok (.getfield 7, 3) := by decide +kernel
theorem dX10_samples_18 : decode cX10_samples 18 = .ok (.iload_n 1, 1) := by decide +kernel
theorem dX10_samples_19 : decode cX10_samples 19 = .ok (.iconst 5, 1) := by decide +kernel
theorem dX10_samples_20 : decode cX10_samples 20 = .ok (.iadd, 1) := by decide +kernel
theorem dX10_samples_21 : decode cX10_samples 21 = .ok (.iconst 1, 1) := by decide +kernel
theorem dX10_samples_22 : decode cX10_samples 22 = .ok (.iadd, 1) := by decide +kernel
theorem dX10_samples_23 : decode cX10_samples 23 = .ok (.aload_n 0, 1) := by decide +kernel
theorem dX10_samples_24 : decode cX10_samples 24 = .ok (.getfield 7, 3) := by decide +kernel
theorem dX10_samples_27 : decode cX10_samples 27 = .ok (.iload_n 1, 1) := by decide +kernel
theorem dX10_samples_28 : decode cX10_samples 28 = .ok (.iconst 5, 1) := by decide +kernel
theorem dX10_samples_29 : decode cX10_samples 29 = .ok (.iadd, 1) := by decide +kernel
theorem dX10_samples_30 : decode cX10_samples 30 = .ok (.iaload, 1) := by decide +kernel
theorem dX10_samples_31 : decode cX10_samples 31 = .ok (.aload_n 0, 1) := by decide +kernel
theorem dX10_samples_32 : decode cX10_samples 32 = .ok (.getfield 7, 3) := by decide +kernel
theorem dX10_samples_35 : decode cX10_samples 35 = .ok (.iload_n 1, 1) := by decide +kernel
theorem dX10_samples_36 : decode cX10_samples 36 = .ok (.iconst 1, 1) := by decide +kernel
theorem dX10_samples_37 : decode cX10_samples 37 = .ok (.iadd, 1) := by decide +kernel
theorem dX10_samples_38 : decode cX10_samples 38 = .ok (.iconst 1, 1) := by decide +kernel
theorem dX10_samples_39 : decode cX10_samples 39 = .ok (.iadd, 1) := by decide +kernel
theorem dX10_samples_40 : decode cX10_samples 40 = .ok (.iaload, 1) := by decide +kernel
theorem dX10_samples_41 : decode cX10_samples 41 = .ok (.irem, 1) := by decide +kernel
theorem dX10_samples_42 : decode cX10_samples 42 = .ok (.iastore, 1) := by decide +kernel
theorem dX10_samples_43 : decode cX10_samples 43 = .ok (.goto 9, 3) := by decide +kernel
theorem dX10_samples_46 : decode cX10_samples 46 = .ok (.aload_n 0, 1) := by decide +kernel
theorem dX10_samples_47 : decode cX10_samples 47 = .ok (.iload_n 1, 1) := by decide +kernel
theorem dX10_samples_48 : decode cX10_samples 48 = .ok (.iconst 1, 1) := by decide +kernel
theorem dX10_samples_49 : decode cX10_samples 49 = .ok (.invokevirtual 34, 3) := by decide +kernel
theorem dX10_samples_52 : decode cX10_samples 52 = .ok (.aload_n 0, 1) := by decide +kernel
theorem dX10_samples_53 : decode cX10_samples 53 = .ok (.iload_n 1, 1) := by decide +kernel
theorem dX10_samples_54 : decode cX10_samples 54 = .ok (.iconst 0, 1) := by decide +kernel
theorem dX10_samples_55 : decode cX10_samples 55 = .ok (.invokevirtual 41, 3) := by decide +kernel
theorem dX10_samples_58 : decode cX10_samples 58 = .ok (.aload_n 0, 1) := by decide +kernel
theorem dX10_samples_59 : decode cX10_samples 59 = .ok (.iload_n 1, 1) := by decide +kernel
theorem dX10_samples_60 : decode cX10_samples 60 = .ok (.iconst 1, 1) := by decide +kernel
theorem dX10_samples_61 : decode cX10_samples 61 = .ok (.invokevirtual 41, 3) := by decide +kernel
theorem dX10_samples_64 : decode cX10_samples 64 = .ok (.if_icmp .ne 7, 3) := by decide +kernel
theorem dX10_samples_67 : decode cX10_samples 67 = .ok (.iconst 0, 1) := by decide +kernel
theorem dX10_samples_68 : decode cX10_samples 68 = .ok (.goto 4, 3) := by decide +kernel
theorem dX10_samples_71 : decode cX10_samples 71 = .ok (.iconst 1, 1) := by decide +kernel
theorem dX10_samples_72 : decode cX10_samples 72 = .ok (.istore_n 2, 1) := by decide +kernel
theorem dX10_samples_73 : decode cX10_samples 73 = .ok (.aload_n 0, 1) := by decide +kernel
theorem dX10_samples_74 : decode cX10_samples 74 = .ok (.getfield 7, 3) := by decide +kernel
theorem dX10_samples_77 : decode cX10_samples 77 = .ok (.iload_n 1, 1) := by decide +kernel
theorem dX10_samples_78 : decode cX10_samples 78 = .ok (.bipush 20, 2) := by decide +kernel
theorem dX10_samples_80 : decode cX10_samples 80 = .ok (.iadd, 1) := by decide +kernel
theorem dX10_samples_81 : decode cX10_samples 81 = .ok (.dup2, 1) := by decide +kernel
theorem dX10_samples_82 : decode cX10_samples 82 = .ok (.iaload, 1) := by decide +kernel
theorem dX10_samples_83 : decode cX10_samples 83 = .ok (.iconst 1, 1) := by decide +kernel
theorem dX10_samples_84 : decode cX10_samples 84 = .ok (.iadd, 1) := by decide +kernel
theorem dX10_samples_85 : decode cX10_samples 85 = .ok (.iastore, 1) := by decide +kernel
theorem dX10_samples_86 : decode cX10_samples 86 = .ok (.aload_n 0, 1) := by decide +kernel
theorem dX10_samples_87 : decode cX10_samples 87 = .ok (.getfield 7, 3) := by decide +kernel
theorem dX10_samples_90 : decode cX10_samples 90 = .ok (.iload_n 1, 1) := by decide +kernel
theorem dX10_samples_91 : decode cX10_samples 91 = .ok (.bipush 21, 2) := by decide +kernel
theorem dX10_samples_93 : decode cX10_samples 93 = .ok (.iadd, 1) := by decide +kernel
theorem dX10_samples_94 : decode cX10_samples 94 = .ok (.dup2, 1) := by decide +kernel
theorem dX10_samples_95 : decode cX10_samples 95 = .ok (.iaload, 1) := by decide +kernel
theorem dX10_samples_96 : decode cX10_samples 96 = .ok (.iload_n 2, 1) := by decide +kernel
theorem dX10_samples_97 : decode cX10_samples 97 = .ok (.iadd, 1) := by decide +kernel
theorem dX10_samples_98 : decode cX10_samples 98 = .ok (.iastore, 1) := by decide +kernel
theorem dX10_samples_99 : decode cX10_samples 99 = .ok (.aload_n 0, 1) := by decide +kernel
theorem dX10_samples_100 : decode cX10_samples 100 = .ok (.iload_n 1, 1) := by decide +kernel
theorem dX10_samples_101 : decode cX10_samples 101 = .ok (.iload_n 2, 1) := by decide +kernel
theorem dX10_samples_102 : decode cX10_samples 102 = .ok (.invokevirtual 45, 3) := by decide +kernel
theorem dX10_samples_105 : decode cX10_samples 105 = .ok (.aload_n 0, 1) := by decide +kernel
theorem dX10_samples_106 : decode cX10_samples 106 = .ok (.getfield 7, 3) := by decide +kernel
theorem dX10_samples_109 : decode cX10_samples 109 = .ok (.iload_n 1, 1) := by decide +kernel
theorem dX10_samples_110 : decode cX10_samples 110 = .ok (.bipush 11, 2) := by decide +kernel
theorem dX10_samples_112 : decode cX10_samples 112 = .ok (.iadd, 1) := by decide +kernel
theorem dX10_samples_113 : decode cX10_samples 113 = .ok (.iaload, 1) := by decide +kernel
theorem dX10_samples_114 : decode cX10_samples 114 = .ok (.iconst 2, 1) := by decide +kernel
theorem dX10_samples_115 : decode cX10_samples 115 = .ok (.if_icmp .ne 4, 3) := by decide +kernel
theorem dX10_samples_118 : decode cX10_samples 118 = .ok (.return_, 1) := by decide +kernel
theorem dX10_samples_119 : decode cX10_samples 119 = .ok (.aload_n 0, 1) := by decide +kernel
theorem dX10_samples_120 : decode cX10_samples 120 = .ok (.iload_n 1, 1) := by decide +kernel
theorem dX10_samples_121 : decode cX10_samples 121 = .ok (.iload_n 2, 1) := by decide +kernel
theorem dX10_samples_122 : decode cX10_samples 122 = .ok (.invokevirtual 48, 3) := by decide +kernel
theorem dX10_samples_125 : decode cX10_samples 125 = .ok (.istore_n 3, 1) := by decide +kernel
theorem dX10_samples_126 : decode cX10_samples 126 = .ok (.iload_n 3, 1) := by decide +kernel
theorem dX10_samples_127 : decode cX10_samples 127 = .ok (.ifCond .le 49, 3) := by decide +kernel
theorem dX10_samples_130 : decode cX10_samples 130 = .ok (.aload_n 0, 1) := by decide +kernel
theorem dX10_samples_131 : decode cX10_samples 131 = .ok (.getfield 7, 3) := by decide +kernel
theorem dX10_samples_134 : decode cX10_samples 134 = .ok (.iload_n 1, 1) := by decide +kernel
theorem dX10_samples_135 : decode cX10_samples 135 = .ok (.bipush 11, 2) := by decide +kernel
theorem dX10_samples_137 : decode cX10_samples 137 = .ok (.iadd, 1) := by decide +kernel
theorem dX10_samples_138 : decode cX10_samples 138 = .ok (.iconst 2, 1) := by decide +kernel
theorem dX10_samples_139 : decode cX10_samples 139 = .ok (.iastore, 1) := by decide +kernel
theorem dX10_samples_140 : decode cX10_samples 140 = .ok (.aload_n 0, 1) := by decide +kernel
theorem dX10_samples_141 : decode cX10_samples 141 = .ok (.getfield 7, 3) := by decide +kernel
theorem dX10_samples_144 : decode cX10_samples 144 = .ok (.iload_n 1, 1) := by decide +kernel
theorem dX10_samples_145 : decode cX10_samples 145 = .ok (.bipush 12, 2) := by decide +kernel
theorem dX10_samples_147 : decode cX10_samples 147 = .ok (.iadd, 1) := by decide +kernel
theorem dX10_samples_148 : decode cX10_samples 148 = .ok (.iload_n 3, 1) := by decide +kernel
theorem dX10_samples_149 : decode cX10_samples 149 = .ok (.iastore, 1) := by decide +kernel
theorem dX10_samples_150 : decode cX10_samples 150 = .ok (.aload_n 0, 1) := by decide +kernel
theorem dX10_samples_151 : decode cX10_samples 151 = .ok (.getfield 7, 3) := by decide +kernel
theorem dX10_samples_154 : decode cX10_samples 154 = .ok (.iload_n 1, 1) := by decide +kernel
theorem dX10_samples_155 : decode cX10_samples 155 = .ok (.bipush 26, 2) := by decide +kernel
theorem dX10_samples_157 : decode cX10_samples 157 = .ok (.iadd, 1) := by decide +kernel
theorem dX10_samples_158 : decode cX10_samples 158 = .ok (.dup2, 1) := by decide +kernel
theorem dX10_samples_159 : decode cX10_samples 159 = .ok (.iaload, 1) := by decide +kernel
theorem dX10_samples_160 : decode cX10_samples 160 = .ok (.iconst 1, 1) := by decide +kernel
theorem dX10_samples_161 : decode cX10_samples 161 = .ok (.iadd, 1) := by decide +kernel
theorem dX10_samples_162 : decode cX10_samples 162 = .ok (.iastore, 1) := by decide +kernel
theorem dX10_samples_163 : decode cX10_samples 163 = .ok (.aload_n 0, 1) := by decide +kernel
theorem dX10_samples_164 : decode cX10_samples 164 = .ok (.getfield 7, 3) := by decide +kernel
theorem dX10_samples_167 : decode cX10_samples 167 = .ok (.iload_n 1, 1) := by decide +kernel
theorem dX10_samples_168 : decode cX10_samples 168 = .ok (.bipush 19, 2) := by decide +kernel
theorem dX10_samples_170 : decode cX10_samples 170 = .ok (.iadd, 1) := by decide +kernel
theorem dX10_samples_171 : decode cX10_samples 171 = .ok (.iconst (-1), 1) := by decide +kernel
theorem dX10_samples_172 : decode cX10_samples 172 = .ok (.iastore, 1) := by decide +kernel
theorem dX10_samples_173 : decode cX10_samples 173 = .ok (.goto 63, 3) := by decide +kernel
theorem dX10_samples_176 : decode cX10_samples 176 = .ok (.aload_n 0, 1) := by decide +kernel
theorem dX10_samples_177 : decode cX10_samples 177 = .ok (.getfield 7, 3) := by decide +kernel
theorem dX10_samples_180 : decode cX10_samples 180 = .ok (.iload_n 1, 1) := by decide +kernel
theorem dX10_samples_181 : decode cX10_samples 181 = .ok (.bipush 11, 2) := by decide +kernel
theorem dX10_samples_183 : decode cX10_samples 183 = .ok (.iadd, 1) := by decide +kernel
theorem dX10_samples_184 : decode cX10_samples 184 = .ok (.iaload, 1) := by decide +kernel
theorem dX10_samples_185 : decode cX10_samples 185 = .ok (.ifCond .ne 45, 3) := by decide +kernel
theorem dX10_samples_188 : decode cX10_samples 188 = .ok (.aload_n 0, 1) := by decide +kernel
theorem dX10_samples_189 : decode cX10_samples 189 = .ok (.getfield 7, 3) := by decide +kernel
theorem dX10_samples_192 : decode cX10_samples 192 = .ok (.iload_n 1, 1) := by decide +kernel
theorem dX10_samples_193 : decode cX10_samples 193 = .ok (.bipush 13, 2) := by decide +kernel
theorem dX10_samples_195 : decode cX10_samples 195 = .ok (.iadd, 1) := by decide +kernel
theorem dX10_samples_196 : decode cX10_samples 196 = .ok (.dup2, 1) := by decide +kernel
