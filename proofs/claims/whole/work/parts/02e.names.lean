theorem dX6_nextRawBit_0 : decode cX6_nextRawBit 0 = .ok (.aload_n 0, 1) := by decide +kernel
theorem dX6_nextRawBit_1 : decode cX6_nextRawBit 1 = .ok (.getfield 23, 3) := by decide +kernel
theorem dX6_nextRawBit_4 : decode cX6_nextRawBit 4 = .ok (.aload_n 0, 1) := by decide +kernel
theorem dX6_nextRawBit_5 : decode cX6_nextRawBit 5 = .ok (.getfield 33, 3) := by decide +kernel
theorem dX6_nextRawBit_8 : decode cX6_nextRawBit 8 = .ok (.getfield 126, 3) := by decide +kernel
theorem dX6_nextRawBit_11 : decode cX6_nextRawBit 11 = .ok (.aload_n 0, 1) := by decide +kernel
theorem dX6_nextRawBit_12 : decode cX6_nextRawBit 12 = .ok (.invokevirtual 129, 3) := by decide +kernel
theorem dX6_nextRawBit_15 : decode cX6_nextRawBit 15 = .ok (.invokevirtual 132, 3) := by decide +kernel
theorem dX6_nextRawBit_18 : decode cX6_nextRawBit 18 = .ok (.aload_n 0, 1) := by decide +kernel
theorem dX6_nextRawBit_19 : decode cX6_nextRawBit 19 = .ok (.invokevirtual 136, 3) := by decide +kernel
theorem dX6_nextRawBit_22 : decode cX6_nextRawBit 22 = .ok (.ifCond .eq 17, 3) := by decide +kernel
theorem dX6_nextRawBit_25 : decode cX6_nextRawBit 25 = .ok (.aload_n 0, 1) := by decide +kernel
theorem dX6_nextRawBit_26 : decode cX6_nextRawBit 26 = .ok (.getfield 27, 3) := by decide +kernel
theorem dX6_nextRawBit_29 : decode cX6_nextRawBit 29 = .ok (.aload_n 0, 1) := by decide +kernel
theorem dX6_nextRawBit_30 : decode cX6_nextRawBit 30 = .ok (.getfield 23, 3) := by decide +kernel
theorem dX6_nextRawBit_33 : decode cX6_nextRawBit 33 = .ok (.invokevirtual 140, 3) := by decide +kernel
theorem dX6_nextRawBit_36 : decode cX6_nextRawBit 36 = .ok (.goto 21, 3) := by decide +kernel
theorem dX6_nextRawBit_39 : decode cX6_nextRawBit 39 = .ok (.aload_n 0, 1) := by decide +kernel
theorem dX6_nextRawBit_40 : decode cX6_nextRawBit 40 = .ok (.getfield 27, 3) := by decide +kernel
theorem dX6_nextRawBit_43 : decode cX6_nextRawBit 43 = .ok (.aload_n 0, 1) := by decide +kernel
theorem dX6_nextRawBit_44 : decode cX6_nextRawBit 44 = .ok (.getfield 33, 3) := by decide +kernel
theorem dX6_nextRawBit_47 : decode cX6_nextRawBit 47 = .ok (.getfield 126, 3) := by decide +kernel
theorem dX6_nextRawBit_50 : decode cX6_nextRawBit 50 = .ok (.aload_n 0, 1) := by decide +kernel
theorem dX6_nextRawBit_51 : decode cX6_nextRawBit 51 = .ok (.invokevirtual 129, 3) := by decide +kernel
theorem dX6_nextRawBit_54 : decode cX6_nextRawBit 54 = .ok (.invokevirtual 132, 3) := by decide +kernel
theorem dX6_nextRawBit_57 : decode cX6_nextRawBit 57 = .ok (.aload_n 0, 1) := by decide +kernel
theorem dX6_nextRawBit_58 : decode cX6_nextRawBit 58 = .ok (.getfield 23, 3) := by decide +kernel
theorem dX6_nextRawBit_61 : decode cX6_nextRawBit 61 = .ok (.invokevirtual 143, 3) := by decide +kernel
theorem dX6_nextRawBit_64 : decode cX6_nextRawBit 64 = .ok (.aload_n 0, 1) := by decide +kernel
theorem dX6_nextRawBit_65 : decode cX6_nextRawBit 65 = .ok (.getfield 27, 3) := by decide +kernel
theorem dX6_nextRawBit_68 : decode cX6_nextRawBit 68 = .ok (.invokevirtual 143, 3) := by decide +kernel
theorem dX6_nextRawBit_71 : decode cX6_nextRawBit 71 = .ok (.if_icmp .eq 7, 3) := by decide +kernel
theorem dX6_nextRawBit_74 : decode cX6_nextRawBit 74 = .ok (.iconst 1, 1) := by decide +kernel
theorem dX6_nextRawBit_75 : decode cX6_nextRawBit 75 = .ok (.goto 4, 3) := by decide +kernel
theorem dX6_nextRawBit_78 : decode cX6_nextRawBit 78 = .ok (.iconst 0, 1) := by decide +kernel
theorem dX6_nextRawBit_79 : decode cX6_nextRawBit 79 = .ok (.ireturn, 1) := by decide +kernel
theorem dX6_locksOn_0 : decode cX6_locksOn 0 = .ok (.aload_n 0, 1) := by decide +kernel
theorem dX6_locksOn_1 : decode cX6_locksOn 1 = .ok (.getfield 23, 3) := by decide +kernel
theorem dX6_locksOn_4 : decode cX6_locksOn 4 = .ok (.getfield 86, 3) := by decide +kernel
theorem dX6_locksOn_7 : decode cX6_locksOn 7 = .ok (.aload_n 0, 1) := by decide +kernel
theorem dX6_locksOn_8 : decode cX6_locksOn 8 = .ok (.getfield 27, 3) := by decide +kernel
theorem dX6_locksOn_11 : decode cX6_locksOn 11 = .ok (.getfield 86, 3) := by decide +kernel
theorem dX6_locksOn_14 : decode cX6_locksOn 14 = .ok (.isub, 1) := by decide +kernel
theorem dX6_locksOn_15 : decode cX6_locksOn 15 = .ok (.invokestatic 146, 3) := by decide +kernel
theorem dX6_locksOn_18 : decode cX6_locksOn 18 = .ok (.aload_n 0, 1) := by decide +kernel
theorem dX6_locksOn_19 : decode cX6_locksOn 19 = .ok (.getfield 33, 3) := by decide +kernel
theorem dX6_locksOn_22 : decode cX6_locksOn 22 = .ok (.getfield 151, 3) := by decide +kernel
theorem dX6_locksOn_25 : decode cX6_locksOn 25 = .ok (.if_icmp .gt 7, 3) := by decide +kernel
theorem dX6_locksOn_28 : decode cX6_locksOn 28 = .ok (.iconst 1, 1) := by decide +kernel
theorem dX6_locksOn_29 : decode cX6_locksOn 29 = .ok (.goto 4, 3) := by decide +kernel
theorem dX6_locksOn_32 : decode cX6_locksOn 32 = .ok (.iconst 0, 1) := by decide +kernel
theorem dX6_locksOn_33 : decode cX6_locksOn 33 = .ok (.ireturn, 1) := by decide +kernel
theorem dX6_nextNoise_0 : decode cX6_nextNoise 0 = .ok (.aload_n 0, 1) := by decide +kernel
theorem dX6_nextNoise_1 : decode cX6_nextNoise 1 = .ok (.aload_n 0, 1) := by decide +kernel
theorem dX6_nextNoise_2 : decode cX6_nextNoise 2 = .ok (.getfield 9, 3) := by decide +kernel
theorem dX6_nextNoise_5 : decode cX6_nextNoise 5 = .ok (.bipush 75, 2) := by decide +kernel
theorem dX6_nextNoise_7 : decode cX6_nextNoise 7 = .ok (.imul, 1) := by decide +kernel
theorem dX6_nextNoise_8 : decode cX6_nextNoise 8 = .ok (.ldc 154, 2) := by decide +kernel
theorem dX6_nextNoise_10 : decode cX6_nextNoise 10 = .ok (.irem, 1) := by decide +kernel
theorem dX6_nextNoise_11 : decode cX6_nextNoise 11 = .ok (.putfield 9, 3) := by decide +kernel
theorem dX6_nextNoise_14 : decode cX6_nextNoise 14 = .ok (.aload_n 0, 1) := by decide +kernel
theorem dX6_nextNoise_15 : decode cX6_nextNoise 15 = .ok (.getfield 9, 3) := by decide +kernel
theorem dX6_nextNoise_18 : decode cX6_nextNoise 18 = .ok (.ireturn, 1) := by decide +kernel
set_option maxRecDepth 20000 in
theorem ggX6_takeRawBit_X0_append : GoodIn wsX6_takeRawBit wsX0_append := goodIn_r _ [20, 21, 22, 90, 91] (by decide +kernel) (by decide +kernel)
set_option maxRecDepth 20000 in
theorem gX6_takeRawBit_X0_append : GoodIn wsX6_takeRawBit (wsV RX6 155 RX0 yX0_append wsX0_append) := goodIn_app (goodIn_of _ (by decide +kernel)) ggX6_takeRawBit_X0_append
set_option maxRecDepth 20000 in
theorem ggX6_takeRawBit_X1_judge : GoodIn wsX6_takeRawBit wsX1_judge := goodIn_r _ [27, 28, 29, 30, 31, 32, 33, 34, 26, 35, 36, 37, 38, 39, 40, 41, 42, 43, 44, 45, 46, 47, 48, 49, 50, 51, 52, 92, 93, 94, 95, 83, 84, 85, 86, 87, 88, 89] (by decide +kernel) (by decide +kernel)
set_option maxRecDepth 20000 in
theorem gX6_takeRawBit_X1_judge : GoodIn wsX6_takeRawBit (wsV RX6 164 RX1 yX1_judge wsX1_judge) := goodIn_app (goodIn_of _ (by decide +kernel)) ggX6_takeRawBit_X1_judge
set_option maxRecDepth 20000 in
theorem ggX6_takeRawBit_X6_pairUp : GoodIn wsX6_takeRawBit wsX6_pairUp := goodIn_r _ [57, 15, 2, 58, 59, 60, 61, 62, 63, 64, 19, 65, 22, 16, 17, 18, 20, 21, 66, 67, 68, 69, 70, 71, 72, 73, 74, 75, 76, 77, 78, 79, 80, 81, 82, 90, 91] (by decide +kernel) (by decide +kernel)
set_option maxRecDepth 20000 in
theorem gX6_takeRawBit_X6_pairUp : GoodIn wsX6_takeRawBit (wsV RX6 181 RX6 yX6_pairUp wsX6_pairUp) := goodIn_app (goodIn_of _ (by decide +kernel)) ggX6_takeRawBit_X6_pairUp
theorem dX6_takeRawBit_0 : decode cX6_takeRawBit 0 = .ok (.aload_n 0, 1) := by decide +kernel
theorem dX6_takeRawBit_1 : decode cX6_takeRawBit 1 = .ok (.getfield 47, 3) := by decide +kernel
theorem dX6_takeRawBit_4 : decode cX6_takeRawBit 4 = .ok (.iload_n 1, 1) := by decide +kernel
theorem dX6_takeRawBit_5 : decode cX6_takeRawBit 5 = .ok (.invokevirtual 155, 3) := by decide +kernel
theorem dX6_takeRawBit_8 : decode cX6_takeRawBit 8 = .ok (.aload_n 0, 1) := by decide +kernel
theorem dX6_takeRawBit_9 : decode cX6_takeRawBit 9 = .ok (.getfield 57, 3) := by decide +kernel
theorem dX6_takeRawBit_12 : decode cX6_takeRawBit 12 = .ok (.dup, 1) := by decide +kernel
theorem dX6_takeRawBit_13 : decode cX6_takeRawBit 13 = .ok (.getfield 158, 3) := by decide +kernel
theorem dX6_takeRawBit_16 : decode cX6_takeRawBit 16 = .ok (.iconst 1, 1) := by decide +kernel
theorem dX6_takeRawBit_17 : decode cX6_takeRawBit 17 = .ok (.iadd, 1) := by decide +kernel
theorem dX6_takeRawBit_18 : decode cX6_takeRawBit 18 = .ok (.putfield 158, 3) := by decide +kernel
theorem dX6_takeRawBit_21 : decode cX6_takeRawBit 21 = .ok (.aload_n 0, 1) := by decide +kernel
theorem dX6_takeRawBit_22 : decode cX6_takeRawBit 22 = .ok (.getfield 57, 3) := by decide +kernel
theorem dX6_takeRawBit_25 : decode cX6_takeRawBit 25 = .ok (.dup, 1) := by decide +kernel
theorem dX6_takeRawBit_26 : decode cX6_takeRawBit 26 = .ok (.getfield 161, 3) := by decide +kernel
theorem dX6_takeRawBit_29 : decode cX6_takeRawBit 29 = .ok (.iload_n 1, 1) := by decide +kernel
theorem dX6_takeRawBit_30 : decode cX6_takeRawBit 30 = .ok (.iadd, 1) := by decide +kernel
theorem dX6_takeRawBit_31 : decode cX6_takeRawBit 31 = .ok (.putfield 161, 3) := by decide +kernel
theorem dX6_takeRawBit_34 : decode cX6_takeRawBit 34 = .ok (.aload_n 0, 1) := by decide +kernel
theorem dX6_takeRawBit_35 : decode cX6_takeRawBit 35 = .ok (.getfield 40, 3) := by decide +kernel
theorem dX6_takeRawBit_38 : decode cX6_takeRawBit 38 = .ok (.getfield 109, 3) := by decide +kernel
theorem dX6_takeRawBit_41 : decode cX6_takeRawBit 41 = .ok (.iconst 2, 1) := by decide +kernel
theorem dX6_takeRawBit_42 : decode cX6_takeRawBit 42 = .ok (.if_icmp .ne 4, 3) := by decide +kernel
theorem dX6_takeRawBit_45 : decode cX6_takeRawBit 45 = .ok (.return_, 1) := by decide +kernel
theorem dX6_takeRawBit_46 : decode cX6_takeRawBit 46 = .ok (.aload_n 0, 1) := by decide +kernel
theorem dX6_takeRawBit_47 : decode cX6_takeRawBit 47 = .ok (.getfield 40, 3) := by decide +kernel
theorem dX6_takeRawBit_50 : decode cX6_takeRawBit 50 = .ok (.getfield 109, 3) := by decide +kernel
theorem dX6_takeRawBit_53 : decode cX6_takeRawBit 53 = .ok (.iconst 1, 1) := by decide +kernel
theorem dX6_takeRawBit_54 : decode cX6_takeRawBit 54 = .ok (.if_icmp .ne 7, 3) := by decide +kernel
theorem dX6_takeRawBit_57 : decode cX6_takeRawBit 57 = .ok (.iconst 1, 1) := by decide +kernel
theorem dX6_takeRawBit_58 : decode cX6_takeRawBit 58 = .ok (.goto 4, 3) := by decide +kernel
theorem dX6_takeRawBit_61 : decode cX6_takeRawBit 61 = .ok (.iconst 0, 1) := by decide +kernel
theorem dX6_takeRawBit_62 : decode cX6_takeRawBit 62 = .ok (.istore_n 2, 1) := by decide +kernel
theorem dX6_takeRawBit_63 : decode cX6_takeRawBit 63 = .ok (.aload_n 0, 1) := by decide +kernel
theorem dX6_takeRawBit_64 : decode cX6_takeRawBit 64 = .ok (.getfield 40, 3) := by decide +kernel
theorem dX6_takeRawBit_67 : decode cX6_takeRawBit 67 = .ok (.iload_n 1, 1) := by decide +kernel
theorem dX6_takeRawBit_68 : decode cX6_takeRawBit 68 = .ok (.aload_n 0, 1) := by decide +kernel
theorem dX6_takeRawBit_69 : decode cX6_takeRawBit 69 = .ok (.getfield 33, 3) := by decide +kernel
theorem dX6_takeRawBit_72 : decode cX6_takeRawBit 72 = .ok (.invokevirtual 164, 3) := by decide +kernel
theorem dX6_takeRawBit_75 : decode cX6_takeRawBit 75 = .ok (.aload_n 0, 1) := by decide +kernel
theorem dX6_takeRawBit_76 : decode cX6_takeRawBit 76 = .ok (.getfield 57, 3) := by decide +kernel
theorem dX6_takeRawBit_79 : decode cX6_takeRawBit 79 = .ok (.aload_n 0, 1) := by decide +kernel
theorem dX6_takeRawBit_80 : decode cX6_takeRawBit 80 = .ok (.getfield 57, 3) := by decide +kernel
theorem dX6_takeRawBit_83 : decode cX6_takeRawBit 83 = .ok (.getfield 168, 3) := by decide +kernel
theorem dX6_takeRawBit_86 : decode cX6_takeRawBit 86 = .ok (.aload_n 0, 1) := by decide +kernel
theorem dX6_takeRawBit_87 : decode cX6_takeRawBit 87 = .ok (.getfield 40, 3) := by decide +kernel
theorem dX6_takeRawBit_90 : decode cX6_takeRawBit 90 = .ok (.getfield 171, 3) := by decide +kernel
theorem dX6_takeRawBit_93 : decode cX6_takeRawBit 93 = .ok (.invokestatic 174, 3) := by decide +kernel
theorem dX6_takeRawBit_96 : decode cX6_takeRawBit 96 = .ok (.putfield 168, 3) := by decide +kernel
theorem dX6_takeRawBit_99 : decode cX6_takeRawBit 99 = .ok (.aload_n 0, 1) := by decide +kernel
theorem dX6_takeRawBit_100 : decode cX6_takeRawBit 100 = .ok (.getfield 40, 3) := by decide +kernel
theorem dX6_takeRawBit_103 : decode cX6_takeRawBit 103 = .ok (.getfield 109, 3) := by decide +kernel
theorem dX6_takeRawBit_106 : decode cX6_takeRawBit 106 = .ok (.iconst 2, 1) := by decide +kernel
theorem dX6_takeRawBit_107 : decode cX6_takeRawBit 107 = .ok (.if_icmp .ne 24, 3) := by decide +kernel
theorem dX6_takeRawBit_110 : decode cX6_takeRawBit 110 = .ok (.aload_n 0, 1) := by decide +kernel
theorem dX6_takeRawBit_111 : decode cX6_takeRawBit 111 = .ok (.getfield 57, 3) := by decide +kernel
theorem dX6_takeRawBit_114 : decode cX6_takeRawBit 114 = .ok (.dup, 1) := by decide +kernel
theorem dX6_takeRawBit_115 : decode cX6_takeRawBit 115 = .ok (.getfield 178, 3) := by decide +kernel
theorem dX6_takeRawBit_118 : decode cX6_takeRawBit 118 = .ok (.iconst 1, 1) := by decide +kernel
theorem dX6_takeRawBit_119 : decode cX6_takeRawBit 119 = .ok (.iadd, 1) := by decide +kernel
theorem dX6_takeRawBit_120 : decode cX6_takeRawBit 120 = .ok (.putfield 178, 3) := by decide +kernel
theorem dX6_takeRawBit_123 : decode cX6_takeRawBit 123 = .ok (.aload_n 0, 1) := by decide +kernel
theorem dX6_takeRawBit_124 : decode cX6_takeRawBit 124 = .ok (.iconst (-1), 1) := by decide +kernel
theorem dX6_takeRawBit_125 : decode cX6_takeRawBit 125 = .ok (.putfield 15, 3) := by decide +kernel
theorem dX6_takeRawBit_128 : decode cX6_takeRawBit 128 = .ok (.goto 12, 3) := by decide +kernel
theorem dX6_takeRawBit_131 : decode cX6_takeRawBit 131 = .ok (.iload_n 2, 1) := by decide +kernel
theorem dX6_takeRawBit_132 : decode cX6_takeRawBit 132 = .ok (.ifCond .eq 8, 3) := by decide +kernel
theorem dX6_takeRawBit_135 : decode cX6_takeRawBit 135 = .ok (.aload_n 0, 1) := by decide +kernel
theorem dX6_takeRawBit_136 : decode cX6_takeRawBit 136 = .ok (.iload_n 1, 1) := by decide +kernel
theorem dX6_takeRawBit_137 : decode cX6_takeRawBit 137 = .ok (.invokevirtual 181, 3) := by decide +kernel
theorem dX6_takeRawBit_140 : decode cX6_takeRawBit 140 = .ok (.return_, 1) := by decide +kernel
set_option maxRecDepth 20000 in
theorem ggX6_pairUp_X0_isFull : GoodIn wsX6_pairUp wsX0_isFull := goodIn_r _ [11, 12, 35, 36] (by decide +kernel) (by decide +kernel)
set_option maxRecDepth 20000 in
theorem gX6_pairUp_X0_isFull : GoodIn wsX6_pairUp (wsV RX6 187 RX0 yX0_isFull wsX0_isFull) := goodIn_app (goodIn_of _ (by decide +kernel)) ggX6_pairUp_X0_isFull
set_option maxRecDepth 20000 in
theorem ggX6_pairUp_X0_append : GoodIn wsX6_pairUp wsX0_append := goodIn_r _ [16, 17, 12, 35, 36] (by decide +kernel) (by decide +kernel)
set_option maxRecDepth 20000 in
theorem gX6_pairUp_X0_append : GoodIn wsX6_pairUp (wsV RX6 155 RX0 yX0_append wsX0_append) := goodIn_app (goodIn_of _ (by decide +kernel)) ggX6_pairUp_X0_append
theorem dX6_pairUp_0 : decode cX6_pairUp 0 = .ok (.aload_n 0, 1) := by decide +kernel
theorem dX6_pairUp_1 : decode cX6_pairUp 1 = .ok (.getfield 15, 3) := by decide +kernel
theorem dX6_pairUp_4 : decode cX6_pairUp 4 = .ok (.iconst (-1), 1) := by decide +kernel
theorem dX6_pairUp_5 : decode cX6_pairUp 5 = .ok (.if_icmp .ne 9, 3) := by decide +kernel
theorem dX6_pairUp_8 : decode cX6_pairUp 8 = .ok (.aload_n 0, 1) := by decide +kernel
theorem dX6_pairUp_9 : decode cX6_pairUp 9 = .ok (.iload_n 1, 1) := by decide +kernel
theorem dX6_pairUp_10 : decode cX6_pairUp 10 = .ok (.putfield 15, 3) := by decide +kernel
theorem dX6_pairUp_13 : decode cX6_pairUp 13 = .ok (.return_, 1) := by decide +kernel
theorem dX6_pairUp_14 : decode cX6_pairUp 14 = .ok (.aload_n 0, 1) := by decide +kernel
theorem dX6_pairUp_15 : decode cX6_pairUp 15 = .ok (.getfield 15, 3) := by decide +kernel
theorem dX6_pairUp_18 : decode cX6_pairUp 18 = .ok (.istore_n 2, 1) := by decide +kernel
theorem dX6_pairUp_19 : decode cX6_pairUp 19 = .ok (.aload_n 0, 1) := by decide +kernel
theorem dX6_pairUp_20 : decode cX6_pairUp 20 = .ok (.iconst (-1), 1) := by decide +kernel
theorem dX6_pairUp_21 : decode cX6_pairUp 21 = .ok (.putfield 15, 3) := by decide +kernel
theorem dX6_pairUp_24 : decode cX6_pairUp 24 = .ok (.iload_n 2, 1) := by decide +kernel
theorem dX6_pairUp_25 : decode cX6_pairUp 25 = .ok (.iload_n 1, 1) := by decide +kernel
theorem dX6_pairUp_26 : decode cX6_pairUp 26 = .ok (.if_icmp .ne 19, 3) := by decide +kernel
theorem dX6_pairUp_29 : decode cX6_pairUp 29 = .ok (.aload_n 0, 1) := by decide +kernel
theorem dX6_pairUp_30 : decode cX6_pairUp 30 = .ok (.getfield 57, 3) := by decide +kernel
theorem dX6_pairUp_33 : decode cX6_pairUp 33 = .ok (.dup, 1) := by decide +kernel
theorem dX6_pairUp_34 : decode cX6_pairUp 34 = .ok (.getfield 184, 3) := by decide +kernel
theorem dX6_pairUp_37 : decode cX6_pairUp 37 = .ok (.iconst 1, 1) := by decide +kernel
theorem dX6_pairUp_38 : decode cX6_pairUp 38 = .ok (.iadd, 1) := by decide +kernel
theorem dX6_pairUp_39 : decode cX6_pairUp 39 = .ok (.putfield 184, 3) := by decide +kernel
theorem dX6_pairUp_42 : decode cX6_pairUp 42 = .ok (.goto 50, 3) := by decide +kernel
theorem dX6_pairUp_45 : decode cX6_pairUp 45 = .ok (.aload_n 0, 1) := by decide +kernel
theorem dX6_pairUp_46 : decode cX6_pairUp 46 = .ok (.getfield 51, 3) := by decide +kernel
theorem dX6_pairUp_49 : decode cX6_pairUp 49 = .ok (.invokevirtual 187, 3) := by decide +kernel
theorem dX6_pairUp_52 : decode cX6_pairUp 52 = .ok (.ifCond .eq 19, 3) := by decide +kernel
theorem dX6_pairUp_55 : decode cX6_pairUp 55 = .ok (.aload_n 0, 1) := by decide +kernel
theorem dX6_pairUp_56 : decode cX6_pairUp 56 = .ok (.getfield 57, 3) := by decide +kernel
theorem dX6_pairUp_59 : decode cX6_pairUp 59 = .ok (.dup, 1) := by decide +kernel
theorem dX6_pairUp_60 : decode cX6_pairUp 60 = .ok (.getfield 190, 3) := by decide +kernel
theorem dX6_pairUp_63 : decode cX6_pairUp 63 = .ok (.iconst 1, 1) := by decide +kernel
theorem dX6_pairUp_64 : decode cX6_pairUp 64 = .ok (.iadd, 1) := by decide +kernel
theorem dX6_pairUp_65 : decode cX6_pairUp 65 = .ok (.putfield 190, 3) := by decide +kernel
theorem dX6_pairUp_68 : decode cX6_pairUp 68 = .ok (.goto 24, 3) := by decide +kernel
theorem dX6_pairUp_71 : decode cX6_pairUp 71 = .ok (.aload_n 0, 1) := by decide +kernel
theorem dX6_pairUp_72 : decode cX6_pairUp 72 = .ok (.getfield 51, 3) := by decide +kernel
theorem dX6_pairUp_75 : decode cX6_pairUp 75 = .ok (.iload_n 2, 1) := by decide +kernel
theorem dX6_pairUp_76 : decode cX6_pairUp 76 = .ok (.invokevirtual 155, 3) := by decide +kernel
theorem dX6_pairUp_79 : decode cX6_pairUp 79 = .ok (.aload_n 0, 1) := by decide +kernel
theorem dX6_pairUp_80 : decode cX6_pairUp 80 = .ok (.getfield 57, 3) := by decide +kernel
theorem dX6_pairUp_83 : decode cX6_pairUp 83 = .ok (.dup, 1) := by decide +kernel
theorem dX6_pairUp_84 : decode cX6_pairUp 84 = .ok (.getfield 96, 3) := by decide +kernel
theorem dX6_pairUp_87 : decode cX6_pairUp 87 = .ok (.iconst 1, 1) := by decide +kernel
theorem dX6_pairUp_88 : decode cX6_pairUp 88 = .ok (.iadd, 1) := by decide +kernel
theorem dX6_pairUp_89 : decode cX6_pairUp 89 = .ok (.putfield 96, 3) := by decide +kernel
theorem dX6_pairUp_92 : decode cX6_pairUp 92 = .ok (.return_, 1) := by decide +kernel
set_option maxRecDepth 20000 in
theorem ggX6_tell_X6_locksOn : GoodIn wsX6_tell wsX6_locksOn := goodIn_r _ [18, 19, 20, 21, 22, 23, 24, 25, 26, 27, 28, 29, 30, 31, 32, 33, 34, 35, 36, 46, 47, 48, 49, 50, 51, 52] (by decide +kernel) (by decide +kernel)
set_option maxRecDepth 20000 in
theorem gX6_tell_X6_locksOn : GoodIn wsX6_tell (wsV RX6 136 RX6 yX6_locksOn wsX6_locksOn) := goodIn_app (goodIn_of _ (by decide +kernel)) ggX6_tell_X6_locksOn
theorem dX6_tell_0 : decode cX6_tell 0 = .ok (.iload_n 1, 1) := by decide +kernel
theorem dX6_tell_1 : decode cX6_tell 1 = .ok (.tableswitch 181 0 9 #[55, 63, 87, 113, 121, 129, 137, 145, 163, 176], 55) := by decide +kernel
theorem dX6_tell_56 : decode cX6_tell 56 = .ok (.aload_n 0, 1) := by decide +kernel
theorem dX6_tell_57 : decode cX6_tell 57 = .ok (.getfield 40, 3) := by decide +kernel
theorem dX6_tell_60 : decode cX6_tell 60 = .ok (.getfield 109, 3) := by decide +kernel
theorem dX6_tell_63 : decode cX6_tell 63 = .ok (.ireturn, 1) := by decide +kernel
theorem dX6_tell_64 : decode cX6_tell 64 = .ok (.aload_n 0, 1) := by decide +kernel
theorem dX6_tell_65 : decode cX6_tell 65 = .ok (.getfield 40, 3) := by decide +kernel
theorem dX6_tell_68 : decode cX6_tell 68 = .ok (.getfield 109, 3) := by decide +kernel
theorem dX6_tell_71 : decode cX6_tell 71 = .ok (.iconst 2, 1) := by decide +kernel
theorem dX6_tell_72 : decode cX6_tell 72 = .ok (.if_icmp .ne 13, 3) := by decide +kernel
theorem dX6_tell_75 : decode cX6_tell 75 = .ok (.aload_n 0, 1) := by decide +kernel
theorem dX6_tell_76 : decode cX6_tell 76 = .ok (.getfield 40, 3) := by decide +kernel
theorem dX6_tell_79 : decode cX6_tell 79 = .ok (.getfield 193, 3) := by decide +kernel
theorem dX6_tell_82 : decode cX6_tell 82 = .ok (.goto 5, 3) := by decide +kernel
theorem dX6_tell_85 : decode cX6_tell 85 = .ok (.ldc 196, 2) := by decide +kernel
theorem dX6_tell_87 : decode cX6_tell 87 = .ok (.ireturn, 1) := by decide +kernel
theorem dX6_tell_88 : decode cX6_tell 88 = .ok (.aload_n 0, 1) := by decide +kernel
theorem dX6_tell_89 : decode cX6_tell 89 = .ok (.getfield 40, 3) := by decide +kernel
theorem dX6_tell_92 : decode cX6_tell 92 = .ok (.getfield 109, 3) := by decide +kernel
theorem dX6_tell_95 : decode cX6_tell 95 = .ok (.ifCond .ne 16, 3) := by decide +kernel
theorem dX6_tell_98 : decode cX6_tell 98 = .ok (.bipush 64, 2) := by decide +kernel
theorem dX6_tell_100 : decode cX6_tell 100 = .ok (.aload_n 0, 1) := by decide +kernel
theorem dX6_tell_101 : decode cX6_tell 101 = .ok (.getfield 40, 3) := by decide +kernel
theorem dX6_tell_104 : decode cX6_tell 104 = .ok (.getfield 197, 3) := by decide +kernel
theorem dX6_tell_107 : decode cX6_tell 107 = .ok (.isub, 1) := by decide +kernel
theorem dX6_tell_108 : decode cX6_tell 108 = .ok (.goto 5, 3) := by decide +kernel
theorem dX6_tell_111 : decode cX6_tell 111 = .ok (.ldc 196, 2) := by decide +kernel
theorem dX6_tell_113 : decode cX6_tell 113 = .ok (.ireturn, 1) := by decide +kernel
theorem dX6_tell_114 : decode cX6_tell 114 = .ok (.aload_n 0, 1) := by decide +kernel
theorem dX6_tell_115 : decode cX6_tell 115 = .ok (.getfield 40, 3) := by decide +kernel
theorem dX6_tell_118 : decode cX6_tell 118 = .ok (.getfield 171, 3) := by decide +kernel
theorem dX6_tell_121 : decode cX6_tell 121 = .ok (.ireturn, 1) := by decide +kernel
theorem dX6_tell_122 : decode cX6_tell 122 = .ok (.aload_n 0, 1) := by decide +kernel
theorem dX6_tell_123 : decode cX6_tell 123 = .ok (.getfield 40, 3) := by decide +kernel
theorem dX6_tell_126 : decode cX6_tell 126 = .ok (.getfield 200, 3) := by decide +kernel
theorem dX6_tell_129 : decode cX6_tell 129 = .ok (.ireturn, 1) := by decide +kernel
theorem dX6_tell_130 : decode cX6_tell 130 = .ok (.aload_n 0, 1) := by decide +kernel
theorem dX6_tell_131 : decode cX6_tell 131 = .ok (.getfield 40, 3) := by decide +kernel
theorem dX6_tell_134 : decode cX6_tell 134 = .ok (.getfield 203, 3) := by decide +kernel
theorem dX6_tell_137 : decode cX6_tell 137 = .ok (.ireturn, 1) := by decide +kernel
theorem dX6_tell_138 : decode cX6_tell 138 = .ok (.aload_n 0, 1) := by decide +kernel
theorem dX6_tell_139 : decode cX6_tell 139 = .ok (.getfield 51, 3) := by decide +kernel
theorem dX6_tell_142 : decode cX6_tell 142 = .ok (.getfield 106, 3) := by decide +kernel
theorem dX6_tell_145 : decode cX6_tell 145 = .ok (.ireturn, 1) := by decide +kernel
theorem dX6_tell_146 : decode cX6_tell 146 = .ok (.aload_n 0, 1) := by decide +kernel
theorem dX6_tell_147 : decode cX6_tell 147 = .ok (.getfield 15, 3) := by decide +kernel
theorem dX6_tell_150 : decode cX6_tell 150 = .ok (.iconst (-1), 1) := by decide +kernel
theorem dX6_tell_151 : decode cX6_tell 151 = .ok (.if_icmp .ne 8, 3) := by decide +kernel
theorem dX6_tell_154 : decode cX6_tell 154 = .ok (.ldc 196, 2) := by decide +kernel
theorem dX6_tell_156 : decode cX6_tell 156 = .ok (.goto 7, 3) := by decide +kernel
theorem dX6_tell_159 : decode cX6_tell 159 = .ok (.aload_n 0, 1) := by decide +kernel
theorem dX6_tell_160 : decode cX6_tell 160 = .ok (.getfield 15, 3) := by decide +kernel
theorem dX6_tell_163 : decode cX6_tell 163 = .ok (.ireturn, 1) := by decide +kernel
theorem dX6_tell_164 : decode cX6_tell 164 = .ok (.aload_n 0, 1) := by decide +kernel
theorem dX6_tell_165 : decode cX6_tell 165 = .ok (.invokevirtual 136, 3) := by decide +kernel
theorem dX6_tell_168 : decode cX6_tell 168 = .ok (.ifCond .eq 7, 3) := by decide +kernel
theorem dX6_tell_171 : decode cX6_tell 171 = .ok (.iconst 1, 1) := by decide +kernel
theorem dX6_tell_172 : decode cX6_tell 172 = .ok (.goto 4, 3) := by decide +kernel
theorem dX6_tell_175 : decode cX6_tell 175 = .ok (.iconst 0, 1) := by decide +kernel
theorem dX6_tell_176 : decode cX6_tell 176 = .ok (.ireturn, 1) := by decide +kernel
theorem dX6_tell_177 : decode cX6_tell 177 = .ok (.aload_n 0, 1) := by decide +kernel
theorem dX6_tell_178 : decode cX6_tell 178 = .ok (.getfield 9, 3) := by decide +kernel
theorem dX6_tell_181 : decode cX6_tell 181 = .ok (.ireturn, 1) := by decide +kernel
theorem dX6_tell_182 : decode cX6_tell 182 = .ok (.ldc 81, 2) := by decide +kernel
theorem dX6_tell_184 : decode cX6_tell 184 = .ok (.ireturn, 1) := by decide +kernel
theorem dX7_init_0 : decode cX7_init 0 = .ok (.aload_n 0, 1) := by decide +kernel
theorem dX7_init_1 : decode cX7_init 1 = .ok (.invokespecial 3, 3) := by decide +kernel
theorem dX7_init_4 : decode cX7_init 4 = .ok (.aload_n 0, 1) := by decide +kernel
theorem dX7_init_5 : decode cX7_init 5 = .ok (.iconst 0, 1) := by decide +kernel
theorem dX7_init_6 : decode cX7_init 6 = .ok (.putfield 9, 3) := by decide +kernel
theorem dX7_init_9 : decode cX7_init 9 = .ok (.aload_n 0, 1) := by decide +kernel
theorem dX7_init_10 : decode cX7_init 10 = .ok (.iconst 0, 1) := by decide +kernel
theorem dX7_init_11 : decode cX7_init 11 = .ok (.putfield 15, 3) := by decide +kernel
theorem dX7_init_14 : decode cX7_init 14 = .ok (.aload_n 0, 1) := by decide +kernel
theorem dX7_init_15 : decode cX7_init 15 = .ok (.iconst 0, 1) := by decide +kernel
theorem dX7_init_16 : decode cX7_init 16 = .ok (.putfield 18, 3) := by decide +kernel
theorem dX7_init_19 : decode cX7_init 19 = .ok (.aload_n 0, 1) := by decide +kernel
theorem dX7_init_20 : decode cX7_init 20 = .ok (.iconst 0, 1) := by decide +kernel
theorem dX7_init_21 : decode cX7_init 21 = .ok (.putfield 21, 3) := by decide +kernel
theorem dX7_init_24 : decode cX7_init 24 = .ok (.aload_n 0, 1) := by decide +kernel
theorem dX7_init_25 : decode cX7_init 25 = .ok (.iconst 0, 1) := by decide +kernel
theorem dX7_init_26 : decode cX7_init 26 = .ok (.putfield 24, 3) := by decide +kernel
theorem dX7_init_29 : decode cX7_init 29 = .ok (.aload_n 0, 1) := by decide +kernel
theorem dX7_init_30 : decode cX7_init 30 = .ok (.iconst 0, 1) := by decide +kernel
theorem dX7_init_31 : decode cX7_init 31 = .ok (.putfield 27, 3) := by decide +kernel
theorem dX7_init_34 : decode cX7_init 34 = .ok (.aload_n 0, 1) := by decide +kernel
theorem dX7_init_35 : decode cX7_init 35 = .ok (.iconst 0, 1) := by decide +kernel
theorem dX7_init_36 : decode cX7_init 36 = .ok (.putfield 30, 3) := by decide +kernel
theorem dX7_init_39 : decode cX7_init 39 = .ok (.aload_n 0, 1) := by decide +kernel
theorem dX7_init_40 : decode cX7_init 40 = .ok (.iconst 0, 1) := by decide +kernel
theorem dX7_init_41 : decode cX7_init 41 = .ok (.putfield 33, 3) := by decide +kernel
theorem dX7_init_44 : decode cX7_init 44 = .ok (.return_, 1) := by decide +kernel
theorem dX7_copyFrom_0 : decode cX7_copyFrom 0 = .ok (.aload_n 0, 1) := by decide +kernel
theorem dX7_copyFrom_1 : decode cX7_copyFrom 1 = .ok (.aload_n 1, 1) := by decide +kernel
theorem dX7_copyFrom_2 : decode cX7_copyFrom 2 = .ok (.getfield 9, 3) := by decide +kernel
theorem dX7_copyFrom_5 : decode cX7_copyFrom 5 = .ok (.putfield 9, 3) := by decide +kernel
theorem dX7_copyFrom_8 : decode cX7_copyFrom 8 = .ok (.aload_n 0, 1) := by decide +kernel
theorem dX7_copyFrom_9 : decode cX7_copyFrom 9 = .ok (.aload_n 1, 1) := by decide +kernel
theorem dX7_copyFrom_10 : decode cX7_copyFrom 10 = .ok (.getfield 15, 3) := by decide +kernel
theorem dX7_copyFrom_13 : decode cX7_copyFrom 13 = .ok (.putfield 15, 3) := by decide +kernel
theorem dX7_copyFrom_16 : decode cX7_copyFrom 16 = .ok (.aload_n 0, 1) := by decide +kernel
theorem dX7_copyFrom_17 : decode cX7_copyFrom 17 = .ok (.aload_n 1, 1) := by decide +kernel
theorem dX7_copyFrom_18 : decode cX7_copyFrom 18 = .ok (.getfield 18, 3) := by decide +kernel
theorem dX7_copyFrom_21 : decode cX7_copyFrom 21 = .ok (.putfield 18, 3) := by decide +kernel
theorem dX7_copyFrom_24 : decode cX7_copyFrom 24 = .ok (.aload_n 0, 1) := by decide +kernel
theorem dX7_copyFrom_25 : decode cX7_copyFrom 25 = .ok (.aload_n 1, 1) := by decide +kernel
theorem dX7_copyFrom_26 : decode cX7_copyFrom 26 = .ok (.getfield 21, 3) := by decide +kernel
theorem dX7_copyFrom_29 : decode cX7_copyFrom 29 = .ok (.putfield 21, 3) := by decide +kernel
theorem dX7_copyFrom_32 : decode cX7_copyFrom 32 = .ok (.aload_n 0, 1) := by decide +kernel
theorem dX7_copyFrom_33 : decode cX7_copyFrom 33 = .ok (.aload_n 1, 1) := by decide +kernel
theorem dX7_copyFrom_34 : decode cX7_copyFrom 34 = .ok (.getfield 24, 3) := by decide +kernel
theorem dX7_copyFrom_37 : decode cX7_copyFrom 37 = .ok (.putfield 24, 3) := by decide +kernel
theorem dX7_copyFrom_40 : decode cX7_copyFrom 40 = .ok (.aload_n 0, 1) := by decide +kernel
theorem dX7_copyFrom_41 : decode cX7_copyFrom 41 = .ok (.aload_n 1, 1) := by decide +kernel
theorem dX7_copyFrom_42 : decode cX7_copyFrom 42 = .ok (.getfield 27, 3) := by decide +kernel
theorem dX7_copyFrom_45 : decode cX7_copyFrom 45 = .ok (.putfield 27, 3) := by decide +kernel
theorem dX7_copyFrom_48 : decode cX7_copyFrom 48 = .ok (.aload_n 0, 1) := by decide +kernel
theorem dX7_copyFrom_49 : decode cX7_copyFrom 49 = .ok (.aload_n 1, 1) := by decide +kernel
theorem dX7_copyFrom_50 : decode cX7_copyFrom 50 = .ok (.getfield 30, 3) := by decide +kernel
theorem dX7_copyFrom_53 : decode cX7_copyFrom 53 = .ok (.putfield 30, 3) := by decide +kernel
theorem dX7_copyFrom_56 : decode cX7_copyFrom 56 = .ok (.aload_n 0, 1) := by decide +kernel
theorem dX7_copyFrom_57 : decode cX7_copyFrom 57 = .ok (.aload_n 1, 1) := by decide +kernel
theorem dX7_copyFrom_58 : decode cX7_copyFrom 58 = .ok (.getfield 33, 3) := by decide +kernel
theorem dX7_copyFrom_61 : decode cX7_copyFrom 61 = .ok (.putfield 33, 3) := by decide +kernel
theorem dX7_copyFrom_64 : decode cX7_copyFrom 64 = .ok (.return_, 1) := by decide +kernel
theorem dX7_tell_0 : decode cX7_tell 0 = .ok (.iload_n 1, 1) := by decide +kernel
theorem dX7_tell_1 : decode cX7_tell 1 = .ok (.tableswitch 87 0 7 #[47, 52, 57, 62, 67, 72, 77, 82], 47) := by decide +kernel
theorem dX7_tell_48 : decode cX7_tell 48 = .ok (.aload_n 0, 1) := by decide +kernel
theorem dX7_tell_49 : decode cX7_tell 49 = .ok (.getfield 9, 3) := by decide +kernel
theorem dX7_tell_52 : decode cX7_tell 52 = .ok (.ireturn, 1) := by decide +kernel
theorem dX7_tell_53 : decode cX7_tell 53 = .ok (.aload_n 0, 1) := by decide +kernel
theorem dX7_tell_54 : decode cX7_tell 54 = .ok (.getfield 15, 3) := by decide +kernel
theorem dX7_tell_57 : decode cX7_tell 57 = .ok (.ireturn, 1) := by decide +kernel
theorem dX7_tell_58 : decode cX7_tell 58 = .ok (.aload_n 0, 1) := by decide +kernel
theorem dX7_tell_59 : decode cX7_tell 59 = .ok (.getfield 18, 3) := by decide +kernel
theorem dX7_tell_62 : decode cX7_tell 62 = .ok (.ireturn, 1) := by decide +kernel
theorem dX7_tell_63 : decode cX7_tell 63 = .ok (.aload_n 0, 1) := by decide +kernel
theorem dX7_tell_64 : decode cX7_tell 64 = .ok (.getfield 21, 3) := by decide +kernel
theorem dX7_tell_67 : decode cX7_tell 67 = .ok (.ireturn, 1) := by decide +kernel
theorem dX7_tell_68 : decode cX7_tell 68 = .ok (.aload_n 0, 1) := by decide +kernel
theorem dX7_tell_69 : decode cX7_tell 69 = .ok (.getfield 24, 3) := by decide +kernel
theorem dX7_tell_72 : decode cX7_tell 72 = .ok (.ireturn, 1) := by decide +kernel
theorem dX7_tell_73 : decode cX7_tell 73 = .ok (.aload_n 0, 1) := by decide +kernel
theorem dX7_tell_74 : decode cX7_tell 74 = .ok (.getfield 27, 3) := by decide +kernel
theorem dX7_tell_77 : decode cX7_tell 77 = .ok (.ireturn, 1) := by decide +kernel
theorem dX7_tell_78 : decode cX7_tell 78 = .ok (.aload_n 0, 1) := by decide +kernel
theorem dX7_tell_79 : decode cX7_tell 79 = .ok (.getfield 30, 3) := by decide +kernel
theorem dX7_tell_82 : decode cX7_tell 82 = .ok (.ireturn, 1) := by decide +kernel
theorem dX7_tell_83 : decode cX7_tell 83 = .ok (.aload_n 0, 1) := by decide +kernel
theorem dX7_tell_84 : decode cX7_tell 84 = .ok (.getfield 33, 3) := by decide +kernel
theorem dX7_tell_87 : decode cX7_tell 87 = .ok (.ireturn, 1) := by decide +kernel
theorem dX7_tell_88 : decode cX7_tell 88 = .ok (.ldc 36, 2) := by decide +kernel
theorem dX7_tell_90 : decode cX7_tell 90 = .ok (.ireturn, 1) := by decide +kernel
theorem dX8_init_0 : decode cX8_init 0 = .ok (.aload_n 0, 1) := by decide +kernel
theorem dX8_init_1 : decode cX8_init 1 = .ok (.invokespecial 3, 3) := by decide +kernel
theorem dX8_init_4 : decode cX8_init 4 = .ok (.aload_n 0, 1) := by decide +kernel
theorem dX8_init_5 : decode cX8_init 5 = .ok (.bipush 60, 2) := by decide +kernel
theorem dX8_init_7 : decode cX8_init 7 = .ok (.newarray .char, 2) := by decide +kernel
theorem dX8_init_9 : decode cX8_init 9 = .ok (.putfield 11, 3) := by decide +kernel
theorem dX8_init_12 : decode cX8_init 12 = .ok (.aload_n 0, 1) := by decide +kernel
theorem dX8_init_13 : decode cX8_init 13 = .ok (.iconst 0, 1) := by decide +kernel
theorem dX8_init_14 : decode cX8_init 14 = .ok (.putfield 15, 3) := by decide +kernel
theorem dX8_init_17 : decode cX8_init 17 = .ok (.return_, 1) := by decide +kernel
set_option maxRecDepth 20000 in
theorem ggX8_append_X9_isWithin : GoodIn wsX8_append wsX9_isWithin := goodIn_r _ [7] (by decide +kernel) (by decide +kernel)
set_option maxRecDepth 20000 in
theorem gX8_append_X9_isWithin_n19 : GoodIn wsX8_append (wsX9_isWithin) := ggX8_append_X9_isWithin
theorem dX8_append_0 : decode cX8_append 0 = .ok (.iload_n 1, 1) := by decide +kernel
theorem dX8_append_1 : decode cX8_append 1 = .ok (.bipush 32, 2) := by decide +kernel
theorem dX8_append_3 : decode cX8_append 3 = .ok (.bipush 126, 2) := by decide +kernel
theorem dX8_append_5 : decode cX8_append 5 = .ok (.invokestatic 19, 3) := by decide +kernel
theorem dX8_append_8 : decode cX8_append 8 = .ok (.ifCond .ne 6, 3) := by decide +kernel
theorem dX8_append_11 : decode cX8_append 11 = .ok (.ldc 23, 2) := by decide +kernel
theorem dX8_append_13 : decode cX8_append 13 = .ok (.ireturn, 1) := by decide +kernel
theorem dX8_append_14 : decode cX8_append 14 = .ok (.aload_n 0, 1) := by decide +kernel
theorem dX8_append_15 : decode cX8_append 15 = .ok (.getfield 15, 3) := by decide +kernel
theorem dX8_append_18 : decode cX8_append 18 = .ok (.iconst 0, 1) := by decide +kernel
theorem dX8_append_19 : decode cX8_append 19 = .ok (.aload_n 0, 1) := by decide +kernel
theorem dX8_append_20 : decode cX8_append 20 = .ok (.getfield 11, 3) := by decide +kernel
theorem dX8_append_23 : decode cX8_append 23 = .ok (.arraylength, 1) := by decide +kernel
theorem dX8_append_24 : decode cX8_append 24 = .ok (.iconst 1, 1) := by decide +kernel
theorem dX8_append_25 : decode cX8_append 25 = .ok (.isub, 1) := by decide +kernel
theorem dX8_append_26 : decode cX8_append 26 = .ok (.invokestatic 19, 3) := by decide +kernel
theorem dX8_append_29 : decode cX8_append 29 = .ok (.ifCond .ne 6, 3) := by decide +kernel
theorem dX8_append_32 : decode cX8_append 32 = .ok (.ldc 24, 2) := by decide +kernel
theorem dX8_append_34 : decode cX8_append 34 = .ok (.ireturn, 1) := by decide +kernel
theorem dX8_append_35 : decode cX8_append 35 = .ok (.aload_n 0, 1) := by decide +kernel
theorem dX8_append_36 : decode cX8_append 36 = .ok (.getfield 11, 3) := by decide +kernel
theorem dX8_append_39 : decode cX8_append 39 = .ok (.aload_n 0, 1) := by decide +kernel
theorem dX8_append_40 : decode cX8_append 40 = .ok (.getfield 15, 3) := by decide +kernel
theorem dX8_append_43 : decode cX8_append 43 = .ok (.iload_n 1, 1) := by decide +kernel
theorem dX8_append_44 : decode cX8_append 44 = .ok (.i2c, 1) := by decide +kernel
theorem dX8_append_45 : decode cX8_append 45 = .ok (.castore, 1) := by decide +kernel
theorem dX8_append_46 : decode cX8_append 46 = .ok (.aload_n 0, 1) := by decide +kernel
theorem dX8_append_47 : decode cX8_append 47 = .ok (.dup, 1) := by decide +kernel
theorem dX8_append_48 : decode cX8_append 48 = .ok (.getfield 15, 3) := by decide +kernel
theorem dX8_append_51 : decode cX8_append 51 = .ok (.iconst 1, 1) := by decide +kernel
theorem dX8_append_52 : decode cX8_append 52 = .ok (.iadd, 1) := by decide +kernel
theorem dX8_append_53 : decode cX8_append 53 = .ok (.putfield 15, 3) := by decide +kernel
theorem dX8_append_56 : decode cX8_append 56 = .ok (.aload_n 0, 1) := by decide +kernel
theorem dX8_append_57 : decode cX8_append 57 = .ok (.getfield 15, 3) := by decide +kernel
theorem dX8_append_60 : decode cX8_append 60 = .ok (.ireturn, 1) := by decide +kernel
theorem dX8_clear_0 : decode cX8_clear 0 = .ok (.aload_n 0, 1) := by decide +kernel
theorem dX8_clear_1 : decode cX8_clear 1 = .ok (.getfield 15, 3) := by decide +kernel
theorem dX8_clear_4 : decode cX8_clear 4 = .ok (.istore_n 1, 1) := by decide +kernel
theorem dX8_clear_5 : decode cX8_clear 5 = .ok (.aload_n 0, 1) := by decide +kernel
theorem dX8_clear_6 : decode cX8_clear 6 = .ok (.iconst 0, 1) := by decide +kernel
theorem dX8_clear_7 : decode cX8_clear 7 = .ok (.putfield 15, 3) := by decide +kernel
theorem dX8_clear_10 : decode cX8_clear 10 = .ok (.iload_n 1, 1) := by decide +kernel
theorem dX8_clear_11 : decode cX8_clear 11 = .ok (.ireturn, 1) := by decide +kernel
set_option maxRecDepth 20000 in
theorem ggX8_at_X9_isWithin : GoodIn wsX8_at wsX9_isWithin := goodIn_r _ [9] (by decide +kernel) (by decide +kernel)
set_option maxRecDepth 20000 in
theorem gX8_at_X9_isWithin_n19 : GoodIn wsX8_at (wsX9_isWithin) := ggX8_at_X9_isWithin
theorem dX8_at_0 : decode cX8_at 0 = .ok (.iload_n 1, 1) := by decide +kernel
theorem dX8_at_1 : decode cX8_at 1 = .ok (.iconst 0, 1) := by decide +kernel
theorem dX8_at_2 : decode cX8_at 2 = .ok (.aload_n 0, 1) := by decide +kernel
theorem dX8_at_3 : decode cX8_at 3 = .ok (.getfield 15, 3) := by decide +kernel
theorem dX8_at_6 : decode cX8_at 6 = .ok (.aload_n 0, 1) := by decide +kernel
theorem dX8_at_7 : decode cX8_at 7 = .ok (.getfield 11, 3) := by decide +kernel
theorem dX8_at_10 : decode cX8_at 10 = .ok (.arraylength, 1) := by decide +kernel
theorem dX8_at_11 : decode cX8_at 11 = .ok (.invokestatic 25, 3) := by decide +kernel
theorem dX8_at_14 : decode cX8_at 14 = .ok (.iconst 1, 1) := by decide +kernel
theorem dX8_at_15 : decode cX8_at 15 = .ok (.isub, 1) := by decide +kernel
theorem dX8_at_16 : decode cX8_at 16 = .ok (.invokestatic 19, 3) := by decide +kernel
theorem dX8_at_19 : decode cX8_at 19 = .ok (.ifCond .eq 12, 3) := by decide +kernel
theorem dX8_at_22 : decode cX8_at 22 = .ok (.aload_n 0, 1) := by decide +kernel
theorem dX8_at_23 : decode cX8_at 23 = .ok (.getfield 11, 3) := by decide +kernel
theorem dX8_at_26 : decode cX8_at 26 = .ok (.iload_n 1, 1) := by decide +kernel
theorem dX8_at_27 : decode cX8_at 27 = .ok (.caload, 1) := by decide +kernel
theorem dX8_at_28 : decode cX8_at 28 = .ok (.goto 4, 3) := by decide +kernel
theorem dX8_at_31 : decode cX8_at 31 = .ok (.iconst 0, 1) := by decide +kernel
theorem dX8_at_32 : decode cX8_at 32 = .ok (.ireturn, 1) := by decide +kernel
set_option maxRecDepth 20000 in
theorem ggX9_init_X6_init : GoodIn wsX9_init wsX6_init := goodIn_r _ [19, 20, 2, 3, 21, 22, 23, 24, 25, 26, 27, 28, 29, 30, 31, 32, 33, 34, 35, 36, 37, 38, 39, 40, 41, 42, 43, 44, 45, 46, 47, 48, 49, 50, 51, 52, 53, 54, 55, 56, 57, 58, 59, 60, 61, 62, 63, 64, 65, 66, 67, 68, 69, 70, 71, 72, 73, 74, 75, 76, 77, 78, 79, 80, 81, 82, 83, 84, 119, 120, 121, 122, 123, 124, 125, 126, 127, 147, 148, 149, 150, 151, 152, 153, 154, 155, 156, 157, 158, 159, 160, 161, 162, 163, 164, 165, 166, 167, 168, 169, 170] (by decide +kernel) (by decide +kernel)
set_option maxRecDepth 20000 in
theorem gX9_init_X6_init : GoodIn wsX9_init (wsX6_init) := ggX9_init_X6_init
set_option maxRecDepth 20000 in
theorem ggX9_init_X2_init : GoodIn wsX9_init wsX2_init := goodIn_r _ [87, 88, 2, 3, 89, 90, 5, 6, 91, 92, 93, 94, 95, 18, 19, 20, 21, 22, 23, 24, 25, 26, 27, 28, 29, 30, 31, 32, 33, 34, 35, 36, 37, 38, 39, 40, 41, 42, 43, 44, 45, 46, 47, 48, 49, 50, 51, 52, 53, 54, 55, 56, 57, 58, 59, 60, 61, 62, 63, 64, 65, 66, 67, 68, 69, 70, 71, 72, 73, 74, 75, 76, 77, 78, 79, 80, 81, 82, 83, 84, 132, 133, 134, 135, 136, 119, 120, 121, 122, 123, 124, 125, 126, 127, 147, 148, 149, 150, 151, 152, 153, 154, 155, 156, 157, 158, 159, 160, 161, 162, 163, 164, 165, 166, 167, 168, 169, 170] (by decide +kernel) (by decide +kernel)
set_option maxRecDepth 20000 in
theorem gX9_init_X2_init : GoodIn wsX9_init (wsX2_init) := ggX9_init_X2_init
set_option maxRecDepth 20000 in
theorem ggX9_init_X3_init : GoodIn wsX9_init wsX3_init := goodIn_r _ [98, 99, 2, 3, 100, 101, 102, 103, 104, 105, 106, 107, 108, 109, 110, 111, 112, 113, 114, 115, 116, 117, 118, 137, 138, 139, 140, 141, 142, 143, 144, 145, 146, 171, 172] (by decide +kernel) (by decide +kernel)
set_option maxRecDepth 20000 in
theorem gX9_init_X3_init : GoodIn wsX9_init (wsX3_init) := ggX9_init_X3_init
theorem dX9_init_0 : decode cX9_init 0 = .ok (.aload_n 0, 1) := by decide +kernel
theorem dX9_init_1 : decode cX9_init 1 = .ok (.invokespecial 1, 3) := by decide +kernel
theorem dX9_init_4 : decode cX9_init 4 = .ok (.aload_n 0, 1) := by decide +kernel
theorem dX9_init_5 : decode cX9_init 5 = .ok (.new 7, 3) := by decide +kernel
theorem dX9_init_8 : decode cX9_init 8 = .ok (.dup, 1) := by decide +kernel
theorem dX9_init_9 : decode cX9_init 9 = .ok (.invokespecial 9, 3) := by decide +kernel
theorem dX9_init_12 : decode cX9_init 12 = .ok (.putfield 10, 3) := by decide +kernel
theorem dX9_init_15 : decode cX9_init 15 = .ok (.aload_n 0, 1) := by decide +kernel
theorem dX9_init_16 : decode cX9_init 16 = .ok (.new 7, 3) := by decide +kernel
theorem dX9_init_19 : decode cX9_init 19 = .ok (.dup, 1) := by decide +kernel
theorem dX9_init_20 : decode cX9_init 20 = .ok (.invokespecial 9, 3) := by decide +kernel
theorem dX9_init_23 : decode cX9_init 23 = .ok (.putfield 16, 3) := by decide +kernel
theorem dX9_init_26 : decode cX9_init 26 = .ok (.aload_n 0, 1) := by decide +kernel
theorem dX9_init_27 : decode cX9_init 27 = .ok (.new 19, 3) := by decide +kernel
theorem dX9_init_30 : decode cX9_init 30 = .ok (.dup, 1) := by decide +kernel
theorem dX9_init_31 : decode cX9_init 31 = .ok (.invokespecial 21, 3) := by decide +kernel
theorem dX9_init_34 : decode cX9_init 34 = .ok (.putfield 22, 3) := by decide +kernel
theorem dX9_init_37 : decode cX9_init 37 = .ok (.aload_n 0, 1) := by decide +kernel
theorem dX9_init_38 : decode cX9_init 38 = .ok (.new 26, 3) := by decide +kernel
theorem dX9_init_41 : decode cX9_init 41 = .ok (.dup, 1) := by decide +kernel
theorem dX9_init_42 : decode cX9_init 42 = .ok (.invokespecial 28, 3) := by decide +kernel
theorem dX9_init_45 : decode cX9_init 45 = .ok (.putfield 29, 3) := by decide +kernel
theorem dX9_init_48 : decode cX9_init 48 = .ok (.return_, 1) := by decide +kernel
set_option maxRecDepth 20000 in
theorem ggX9_ring_X6_copyFrom : GoodIn wsX9_ring wsX6_copyFrom := goodIn_r _ [7, 8, 9, 10, 11, 12, 13, 14, 15, 16, 17, 18, 19, 20, 21, 22, 23, 24, 25, 26, 27, 28, 29, 30, 31, 32, 33, 34, 35, 36, 37, 38, 39, 40, 41, 42, 43, 44, 45, 46, 47, 48, 49, 50, 51, 52, 53, 54, 55, 56, 57, 58, 59, 60, 61, 62, 63, 64, 65, 101, 102, 103, 104, 105, 106, 107, 108, 109, 110, 111, 112, 113, 114, 115, 116, 117, 118, 119, 120, 121, 122, 123, 124, 125, 126, 127, 128, 129, 130, 131, 132, 133] (by decide +kernel) (by decide +kernel)
set_option maxRecDepth 20000 in
theorem gX9_ring_X6_copyFrom : GoodIn wsX9_ring (wsV RX9 33 RX6 yX6_copyFrom wsX6_copyFrom) := goodIn_app (goodIn_of _ (by decide +kernel)) ggX9_ring_X6_copyFrom
set_option maxRecDepth 20000 in
theorem ggX9_ring_X6_changeRing : GoodIn wsX9_ring wsX6_changeRing := goodIn_r _ [69, 70, 71, 72, 73, 74, 75, 76, 77, 78, 79, 6, 80, 8, 9, 110, 111, 112, 101, 102, 103, 104, 105, 106, 107, 108, 109] (by decide +kernel) (by decide +kernel)
set_option maxRecDepth 20000 in
theorem gX9_ring_X6_changeRing : GoodIn wsX9_ring (wsV RX9 37 RX6 yX6_changeRing wsX6_changeRing) := goodIn_app (goodIn_of _ (by decide +kernel)) ggX9_ring_X6_changeRing
set_option maxRecDepth 20000 in
theorem ggX9_ring_X9_settle : GoodIn wsX9_ring wsX9_settle := goodIn_r _ [84, 85, 2, 1, 86, 87, 88, 89, 90, 91, 92, 93, 94, 95, 96, 4, 5, 6, 7, 8, 9, 10, 11, 12, 13, 14, 15, 16, 17, 18, 19, 20, 21, 22, 23, 24, 25, 26, 27, 28, 29, 30, 31, 32, 33, 34, 35, 36, 37, 38, 39, 40, 41, 42, 43, 44, 45, 46, 47, 48, 49, 50, 51, 52, 53, 54, 55, 56, 57, 58, 59, 60, 61, 62, 63, 64, 65, 3, 97, 98, 99, 100, 134, 135, 136, 137, 138, 101, 102, 103, 104, 105, 106, 107, 108, 109, 110, 111, 112, 113, 114, 115, 116, 117, 118, 119, 120, 121, 122, 123, 124, 125, 126, 127, 128, 129, 130, 131, 132, 133] (by decide +kernel) (by decide +kernel)
set_option maxRecDepth 20000 in
theorem gX9_ring_X9_settle : GoodIn wsX9_ring (wsV RX9 41 RX9 yX9_settle wsX9_settle) := goodIn_app (goodIn_of _ (by decide +kernel)) ggX9_ring_X9_settle
theorem dX9_ring_0 : decode cX9_ring 0 = .ok (.aload_n 0, 1) := by decide +kernel
theorem dX9_ring_1 : decode cX9_ring 1 = .ok (.getfield 16, 3) := by decide +kernel
theorem dX9_ring_4 : decode cX9_ring 4 = .ok (.aload_n 0, 1) := by decide +kernel
theorem dX9_ring_5 : decode cX9_ring 5 = .ok (.getfield 10, 3) := by decide +kernel
theorem dX9_ring_8 : decode cX9_ring 8 = .ok (.invokevirtual 33, 3) := by decide +kernel
theorem dX9_ring_11 : decode cX9_ring 11 = .ok (.aload_n 0, 1) := by decide +kernel
theorem dX9_ring_12 : decode cX9_ring 12 = .ok (.aload_n 0, 1) := by decide +kernel
theorem dX9_ring_13 : decode cX9_ring 13 = .ok (.getfield 16, 3) := by decide +kernel
theorem dX9_ring_16 : decode cX9_ring 16 = .ok (.iload_n 1, 1) := by decide +kernel
theorem dX9_ring_17 : decode cX9_ring 17 = .ok (.iload_n 2, 1) := by decide +kernel
theorem dX9_ring_18 : decode cX9_ring 18 = .ok (.iload_n 3, 1) := by decide +kernel
theorem dX9_ring_19 : decode cX9_ring 19 = .ok (.invokevirtual 37, 3) := by decide +kernel
theorem dX9_ring_22 : decode cX9_ring 22 = .ok (.invokevirtual 41, 3) := by decide +kernel
theorem dX9_ring_25 : decode cX9_ring 25 = .ok (.ireturn, 1) := by decide +kernel
set_option maxRecDepth 20000 in
theorem ggX9_noise_X6_copyFrom : GoodIn wsX9_noise wsX6_copyFrom := goodIn_r _ [7, 8, 9, 10, 11, 12, 13, 14, 15, 16, 17, 18, 19, 20, 21, 22, 23, 24, 25, 26, 27, 28, 29, 30, 31, 32, 33, 34, 35, 36, 37, 38, 39, 40, 41, 42, 43, 44, 45, 46, 47, 48, 49, 50, 51, 52, 53, 54, 55, 56, 57, 58, 59, 60, 61, 62, 63, 64, 65, 95, 96, 97, 98, 99, 100, 101, 102, 103, 104, 105, 106, 107, 108, 109, 110, 111, 112, 113, 114, 115, 116, 117, 118, 119, 120, 121, 122, 123, 124, 125, 126, 127] (by decide +kernel) (by decide +kernel)
set_option maxRecDepth 20000 in
theorem gX9_noise_X6_copyFrom : GoodIn wsX9_noise (wsV RX9 33 RX6 yX6_copyFrom wsX6_copyFrom) := goodIn_app (goodIn_of _ (by decide +kernel)) ggX9_noise_X6_copyFrom
set_option maxRecDepth 20000 in
theorem ggX9_noise_X6_changeNoise : GoodIn wsX9_noise wsX6_changeNoise := goodIn_r _ [69, 70, 71, 15, 72, 73, 74, 95, 96, 97, 98, 99, 100, 101, 102, 103] (by decide +kernel) (by decide +kernel)
set_option maxRecDepth 20000 in
theorem gX9_noise_X6_changeNoise : GoodIn wsX9_noise (wsV RX9 45 RX6 yX6_changeNoise wsX6_changeNoise) := goodIn_app (goodIn_of _ (by decide +kernel)) ggX9_noise_X6_changeNoise
set_option maxRecDepth 20000 in
theorem ggX9_noise_X9_settle : GoodIn wsX9_noise wsX9_settle := goodIn_r _ [78, 79, 2, 1, 80, 81, 82, 83, 84, 85, 86, 87, 88, 89, 90, 4, 5, 6, 7, 8, 9, 10, 11, 12, 13, 14, 15, 16, 17, 18, 19, 20, 21, 22, 23, 24, 25, 26, 27, 28, 29, 30, 31, 32, 33, 34, 35, 36, 37, 38, 39, 40, 41, 42, 43, 44, 45, 46, 47, 48, 49, 50, 51, 52, 53, 54, 55, 56, 57, 58, 59, 60, 61, 62, 63, 64, 65, 3, 91, 92, 93, 94, 128, 129, 130, 131, 132, 95, 96, 97, 98, 99, 100, 101, 102, 103, 104, 105, 106, 107, 108, 109, 110, 111, 112, 113, 114, 115, 116, 117, 118, 119, 120, 121, 122, 123, 124, 125, 126, 127] (by decide +kernel) (by decide +kernel)
set_option maxRecDepth 20000 in
theorem gX9_noise_X9_settle : GoodIn wsX9_noise (wsV RX9 41 RX9 yX9_settle wsX9_settle) := goodIn_app (goodIn_of _ (by decide +kernel)) ggX9_noise_X9_settle
theorem dX9_noise_0 : decode cX9_noise 0 = .ok (.aload_n 0, 1) := by decide +kernel
theorem dX9_noise_1 : decode cX9_noise 1 = .ok (.getfield 16, 3) := by decide +kernel
theorem dX9_noise_4 : decode cX9_noise 4 = .ok (.aload_n 0, 1) := by decide +kernel
theorem dX9_noise_5 : decode cX9_noise 5 = .ok (.getfield 10, 3) := by decide +kernel
theorem dX9_noise_8 : decode cX9_noise 8 = .ok (.invokevirtual 33, 3) := by decide +kernel
theorem dX9_noise_11 : decode cX9_noise 11 = .ok (.aload_n 0, 1) := by decide +kernel
theorem dX9_noise_12 : decode cX9_noise 12 = .ok (.aload_n 0, 1) := by decide +kernel
theorem dX9_noise_13 : decode cX9_noise 13 = .ok (.getfield 16, 3) := by decide +kernel
theorem dX9_noise_16 : decode cX9_noise 16 = .ok (.iload_n 1, 1) := by decide +kernel
theorem dX9_noise_17 : decode cX9_noise 17 = .ok (.invokevirtual 45, 3) := by decide +kernel
theorem dX9_noise_20 : decode cX9_noise 20 = .ok (.invokevirtual 41, 3) := by decide +kernel
theorem dX9_noise_23 : decode cX9_noise 23 = .ok (.ireturn, 1) := by decide +kernel
set_option maxRecDepth 20000 in
theorem ggX9_sample_X6_copyFrom : GoodIn wsX9_sample wsX6_copyFrom := goodIn_r _ [7, 8, 9, 10, 11, 12, 13, 14, 15, 16, 17, 18, 19, 20, 21, 22, 23, 24, 25, 26, 27, 28, 29, 30, 31, 32, 33, 34, 35, 36, 37, 38, 39, 40, 41, 42, 43, 44, 45, 46, 47, 48, 49, 50, 51, 52, 53, 54, 55, 56, 57, 58, 59, 60, 61, 62, 63, 64, 65, 178, 179, 180, 181, 182, 183, 184, 185, 186, 187, 188, 189, 190, 191, 192, 193, 194, 195, 196, 197, 198, 199, 200, 201, 202, 203, 204, 205, 206, 207, 208, 209, 210] (by decide +kernel) (by decide +kernel)
set_option maxRecDepth 20000 in
theorem gX9_sample_X6_copyFrom : GoodIn wsX9_sample (wsV RX9 33 RX6 yX6_copyFrom wsX6_copyFrom) := goodIn_app (goodIn_of _ (by decide +kernel)) ggX9_sample_X6_copyFrom
set_option maxRecDepth 20000 in
theorem ggX9_sample_X6_makeSamples : GoodIn wsX9_sample wsX6_makeSamples := goodIn_r _ [69, 70, 14, 71, 72, 73, 74, 75, 76, 77, 6, 78, 8, 10, 79, 9, 80, 81, 82, 83, 15, 84, 85, 86, 87, 20, 88, 24, 23, 22, 89, 90, 91, 92, 93, 94, 95, 96, 97, 98, 99, 100, 101, 102, 103, 104, 105, 106, 107, 108, 109, 110, 111, 112, 12, 113, 114, 11, 115, 116, 117, 118, 119, 120, 121, 16, 122, 123, 124, 49, 125, 51, 52, 126, 127, 128, 37, 129, 130, 42, 131, 39, 132, 133, 134, 135, 43, 136, 137, 138, 139, 44, 45, 140, 141, 142, 143, 40, 144, 145, 146, 147, 41, 148, 149, 150, 151, 152, 13, 153, 154, 155, 156, 157, 178, 179, 180, 181, 182, 183, 184, 185, 186, 203, 204, 205, 206, 207, 208, 209, 210, 190, 191, 192, 193, 187, 188, 189, 194, 195, 196, 197, 198, 199, 200, 201, 202] (by decide +kernel) (by decide +kernel)
set_option maxRecDepth 20000 in
theorem gX9_sample_X6_makeSamples : GoodIn wsX9_sample (wsV RX9 48 RX6 yX6_makeSamples wsX6_makeSamples) := goodIn_app (goodIn_of _ (by decide +kernel)) ggX9_sample_X6_makeSamples
set_option maxRecDepth 20000 in
theorem ggX9_sample_X9_settle : GoodIn wsX9_sample wsX9_settle := goodIn_r _ [161, 162, 2, 1, 163, 164, 165, 166, 167, 168, 169, 170, 171, 172, 173, 4, 5, 6, 7, 8, 9, 10, 11, 12, 13, 14, 15, 16, 17, 18, 19, 20, 21, 22, 23, 24, 25, 26, 27, 28, 29, 30, 31, 32, 33, 34, 35, 36, 37, 38, 39, 40, 41, 42, 43, 44, 45, 46, 47, 48, 49, 50, 51, 52, 53, 54, 55, 56, 57, 58, 59, 60, 61, 62, 63, 64, 65, 3, 174, 175, 176, 177, 211, 212, 213, 214, 215, 178, 179, 180, 181, 182, 183, 184, 185, 186, 187, 188, 189, 190, 191, 192, 193, 194, 195, 196, 197, 198, 199, 200, 201, 202, 203, 204, 205, 206, 207, 208, 209, 210] (by decide +kernel) (by decide +kernel)
set_option maxRecDepth 20000 in
theorem gX9_sample_X9_settle : GoodIn wsX9_sample (wsV RX9 41 RX9 yX9_settle wsX9_settle) := goodIn_app (goodIn_of _ (by decide +kernel)) ggX9_sample_X9_settle
theorem dX9_sample_0 : decode cX9_sample 0 = .ok (.aload_n 0, 1) := by decide +kernel
theorem dX9_sample_1 : decode cX9_sample 1 = .ok (.getfield 16, 3) := by decide +kernel
theorem dX9_sample_4 : decode cX9_sample 4 = .ok (.aload_n 0, 1) := by decide +kernel
theorem dX9_sample_5 : decode cX9_sample 5 = .ok (.getfield 10, 3) := by decide +kernel
theorem dX9_sample_8 : decode cX9_sample 8 = .ok (.invokevirtual 33, 3) := by decide +kernel
theorem dX9_sample_11 : decode cX9_sample 11 = .ok (.aload_n 0, 1) := by decide +kernel
theorem dX9_sample_12 : decode cX9_sample 12 = .ok (.aload_n 0, 1) := by decide +kernel
theorem dX9_sample_13 : decode cX9_sample 13 = .ok (.getfield 16, 3) := by decide +kernel
theorem dX9_sample_16 : decode cX9_sample 16 = .ok (.iload_n 1, 1) := by decide +kernel
theorem dX9_sample_17 : decode cX9_sample 17 = .ok (.invokevirtual 48, 3) := by decide +kernel
theorem dX9_sample_20 : decode cX9_sample 20 = .ok (.invokevirtual 41, 3) := by decide +kernel
theorem dX9_sample_23 : decode cX9_sample 23 = .ok (.ireturn, 1) := by decide +kernel
set_option maxRecDepth 20000 in
theorem ggX9_draw_X6_copyFrom : GoodIn wsX9_draw wsX6_copyFrom := goodIn_r _ [7, 8, 9, 10, 11, 12, 13, 14, 15, 16, 17, 18, 19, 20, 21, 22, 23, 24, 25, 26, 27, 28, 29, 30, 31, 32, 33, 34, 35, 36, 37, 38, 39, 40, 41, 42, 43, 44, 45, 46, 47, 48, 49, 50, 51, 52, 53, 54, 55, 56, 57, 58, 59, 60, 61, 62, 63, 64, 65, 102, 103, 104, 105, 106, 107, 108, 109, 110, 111, 112, 113, 114, 115, 116, 117, 118, 119, 120, 121, 122, 123, 124, 125, 126, 127, 128, 129, 130, 131, 132, 133, 134] (by decide +kernel) (by decide +kernel)
set_option maxRecDepth 20000 in
theorem gX9_draw_X6_copyFrom : GoodIn wsX9_draw (wsV RX9 33 RX6 yX6_copyFrom wsX6_copyFrom) := goodIn_app (goodIn_of _ (by decide +kernel)) ggX9_draw_X6_copyFrom
set_option maxRecDepth 20000 in
theorem ggX9_draw_X6_drawBits : GoodIn wsX9_draw wsX6_drawBits := goodIn_r _ [69, 70, 13, 71, 11, 72, 73, 14, 74, 75, 76, 77, 78, 79, 80, 49, 81, 52, 51, 102, 103, 104, 105, 106, 107, 108, 109, 110, 125, 126, 118, 119, 120, 121, 122, 123, 124, 127, 128, 129, 130, 131, 132, 133, 134] (by decide +kernel) (by decide +kernel)
set_option maxRecDepth 20000 in
theorem gX9_draw_X6_drawBits : GoodIn wsX9_draw (wsV RX9 51 RX6 yX6_drawBits wsX6_drawBits) := goodIn_app (goodIn_of _ (by decide +kernel)) ggX9_draw_X6_drawBits
set_option maxRecDepth 20000 in
theorem ggX9_draw_X9_settle : GoodIn wsX9_draw wsX9_settle := goodIn_r _ [85, 86, 2, 1, 87, 88, 89, 90, 91, 92, 93, 94, 95, 96, 97, 4, 5, 6, 7, 8, 9, 10, 11, 12, 13, 14, 15, 16, 17, 18, 19, 20, 21, 22, 23, 24, 25, 26, 27, 28, 29, 30, 31, 32, 33, 34, 35, 36, 37, 38, 39, 40, 41, 42, 43, 44, 45, 46, 47, 48, 49, 50, 51, 52, 53, 54, 55, 56, 57, 58, 59, 60, 61, 62, 63, 64, 65, 3, 98, 99, 100, 101, 135, 136, 137, 138, 139, 102, 103, 104, 105, 106, 107, 108, 109, 110, 111, 112, 113, 114, 115, 116, 117, 118, 119, 120, 121, 122, 123, 124, 125, 126, 127, 128, 129, 130, 131, 132, 133, 134] (by decide +kernel) (by decide +kernel)
set_option maxRecDepth 20000 in
theorem gX9_draw_X9_settle : GoodIn wsX9_draw (wsV RX9 41 RX9 yX9_settle wsX9_settle) := goodIn_app (goodIn_of _ (by decide +kernel)) ggX9_draw_X9_settle
theorem dX9_draw_0 : decode cX9_draw 0 = .ok (.aload_n 0, 1) := by decide +kernel
theorem dX9_draw_1 : decode cX9_draw 1 = .ok (.getfield 16, 3) := by decide +kernel
theorem dX9_draw_4 : decode cX9_draw 4 = .ok (.aload_n 0, 1) := by decide +kernel
theorem dX9_draw_5 : decode cX9_draw 5 = .ok (.getfield 10, 3) := by decide +kernel
theorem dX9_draw_8 : decode cX9_draw 8 = .ok (.invokevirtual 33, 3) := by decide +kernel
theorem dX9_draw_11 : decode cX9_draw 11 = .ok (.aload_n 0, 1) := by decide +kernel
theorem dX9_draw_12 : decode cX9_draw 12 = .ok (.aload_n 0, 1) := by decide +kernel
theorem dX9_draw_13 : decode cX9_draw 13 = .ok (.getfield 16, 3) := by decide +kernel
theorem dX9_draw_16 : decode cX9_draw 16 = .ok (.iload_n 1, 1) := by decide +kernel
theorem dX9_draw_17 : decode cX9_draw 17 = .ok (.invokevirtual 51, 3) := by decide +kernel
theorem dX9_draw_20 : decode cX9_draw 20 = .ok (.invokevirtual 41, 3) := by decide +kernel
theorem dX9_draw_23 : decode cX9_draw 23 = .ok (.ireturn, 1) := by decide +kernel
set_option maxRecDepth 20000 in
theorem ggX9_restart_X6_copyFrom : GoodIn wsX9_restart wsX6_copyFrom := goodIn_r _ [7, 8, 9, 10, 11, 12, 13, 14, 15, 16, 17, 18, 19, 20, 21, 22, 23, 24, 25, 26, 27, 28, 29, 30, 31, 32, 33, 34, 35, 36, 37, 38, 39, 40, 41, 42, 43, 44, 45, 46, 47, 48, 49, 50, 51, 52, 53, 54, 55, 56, 57, 58, 59, 60, 61, 62, 63, 64, 65, 100, 101, 102, 103, 104, 105, 106, 107, 108, 109, 110, 111, 112, 113, 114, 115, 116, 117, 118, 119, 120, 121, 122, 123, 124, 125, 126, 127, 128, 129, 130, 131, 132] (by decide +kernel) (by decide +kernel)
set_option maxRecDepth 20000 in
theorem gX9_restart_X6_copyFrom : GoodIn wsX9_restart (wsV RX9 33 RX6 yX6_copyFrom wsX6_copyFrom) := goodIn_app (goodIn_of _ (by decide +kernel)) ggX9_restart_X6_copyFrom
set_option maxRecDepth 20000 in
theorem ggX9_restart_X6_startAnew : GoodIn wsX9_restart wsX6_startAnew := goodIn_r _ [69, 13, 70, 11, 16, 71, 72, 73, 49, 74, 51, 52, 75, 76, 77, 37, 78, 39, 40, 41, 42, 43, 44, 45, 100, 101, 102, 103, 104, 105, 106, 107, 108, 123, 124, 116, 117, 118, 119, 120, 121, 122] (by decide +kernel) (by decide +kernel)
set_option maxRecDepth 20000 in
theorem gX9_restart_X6_startAnew : GoodIn wsX9_restart (wsV RX9 54 RX6 yX6_startAnew wsX6_startAnew) := goodIn_app (goodIn_of _ (by decide +kernel)) ggX9_restart_X6_startAnew
set_option maxRecDepth 20000 in
theorem ggX9_restart_X9_settle : GoodIn wsX9_restart wsX9_settle := goodIn_r _ [83, 84, 2, 1, 85, 86, 87, 88, 89, 90, 91, 92, 93, 94, 95, 4, 5, 6, 7, 8, 9, 10, 11, 12, 13, 14, 15, 16, 17, 18, 19, 20, 21, 22, 23, 24, 25, 26, 27, 28, 29, 30, 31, 32, 33, 34, 35, 36, 37, 38, 39, 40, 41, 42, 43, 44, 45, 46, 47, 48, 49, 50, 51, 52, 53, 54, 55, 56, 57, 58, 59, 60, 61, 62, 63, 64, 65, 3, 96, 97, 98, 99, 133, 134, 135, 136, 137, 100, 101, 102, 103, 104, 105, 106, 107, 108, 109, 110, 111, 112, 113, 114, 115, 116, 117, 118, 119, 120, 121, 122, 123, 124, 125, 126, 127, 128, 129, 130, 131, 132] (by decide +kernel) (by decide +kernel)
set_option maxRecDepth 20000 in
theorem gX9_restart_X9_settle : GoodIn wsX9_restart (wsV RX9 41 RX9 yX9_settle wsX9_settle) := goodIn_app (goodIn_of _ (by decide +kernel)) ggX9_restart_X9_settle
theorem dX9_restart_0 : decode cX9_restart 0 = .ok (.aload_n 0, 1) := by decide +kernel
theorem dX9_restart_1 : decode cX9_restart 1 = .ok (.getfield 16, 3) := by decide +kernel
theorem dX9_restart_4 : decode cX9_restart 4 = .ok (.aload_n 0, 1) := by decide +kernel
theorem dX9_restart_5 : decode cX9_restart 5 = .ok (.getfield 10, 3) := by decide +kernel
theorem dX9_restart_8 : decode cX9_restart 8 = .ok (.invokevirtual 33, 3) := by decide +kernel
theorem dX9_restart_11 : decode cX9_restart 11 = .ok (.aload_n 0, 1) := by decide +kernel
theorem dX9_restart_12 : decode cX9_restart 12 = .ok (.aload_n 0, 1) := by decide +kernel
theorem dX9_restart_13 : decode cX9_restart 13 = .ok (.getfield 16, 3) := by decide +kernel
theorem dX9_restart_16 : decode cX9_restart 16 = .ok (.invokevirtual 54, 3) := by decide +kernel
theorem dX9_restart_19 : decode cX9_restart 19 = .ok (.invokevirtual 41, 3) := by decide +kernel
theorem dX9_restart_22 : decode cX9_restart 22 = .ok (.ireturn, 1) := by decide +kernel
set_option maxRecDepth 20000 in
theorem ggX9_set_X6_copyFrom : GoodIn wsX9_set wsX6_copyFrom := goodIn_r _ [8, 9, 10, 11, 12, 13, 14, 15, 16, 17, 18, 19, 20, 21, 22, 23, 24, 25, 26, 27, 28, 29, 30, 31, 32, 33, 34, 35, 36, 37, 38, 39, 40, 41, 42, 43, 44, 45, 46, 47, 48, 49, 50, 51, 52, 53, 54, 55, 56, 57, 58, 59, 60, 61, 62, 63, 64, 65, 66, 102, 103, 104, 105, 106, 107, 108, 109, 110, 111, 112, 113, 114, 115, 116, 117, 118, 119, 120, 121, 122, 123, 124, 125, 126, 127, 128, 129, 130, 131, 132, 133, 134] (by decide +kernel) (by decide +kernel)
set_option maxRecDepth 20000 in
theorem gX9_set_X6_copyFrom : GoodIn wsX9_set (wsV RX9 33 RX6 yX6_copyFrom wsX6_copyFrom) := goodIn_app (goodIn_of _ (by decide +kernel)) ggX9_set_X6_copyFrom
set_option maxRecDepth 20000 in
theorem ggX9_set_X5_change : GoodIn wsX9_set wsX5_change := goodIn_r _ [70, 71, 31, 32, 33, 34, 72, 73, 29, 74, 75, 76, 77, 78, 79, 80, 81, 114, 115, 116, 117] (by decide +kernel) (by decide +kernel)
set_option maxRecDepth 20000 in
theorem gX9_set_X5_change : GoodIn wsX9_set (wsV RX9 62 RX5 yX5_change wsX5_change) := goodIn_app (goodIn_of _ (by decide +kernel)) ggX9_set_X5_change
set_option maxRecDepth 20000 in
theorem ggX9_set_X9_settle : GoodIn wsX9_set wsX9_settle := goodIn_r _ [85, 86, 2, 1, 87, 88, 89, 90, 91, 92, 93, 94, 95, 96, 97, 5, 6, 7, 8, 9, 10, 11, 12, 13, 14, 15, 16, 17, 18, 19, 20, 21, 22, 23, 24, 25, 26, 27, 28, 29, 30, 31, 32, 33, 34, 35, 36, 37, 38, 39, 40, 41, 42, 43, 44, 45, 46, 47, 48, 49, 50, 51, 52, 53, 54, 55, 56, 57, 58, 59, 60, 61, 62, 63, 64, 65, 66, 4, 98, 99, 100, 101, 135, 136, 137, 138, 139, 102, 103, 104, 105, 106, 107, 108, 109, 110, 111, 112, 113, 114, 115, 116, 117, 118, 119, 120, 121, 122, 123, 124, 125, 126, 127, 128, 129, 130, 131, 132, 133, 134] (by decide +kernel) (by decide +kernel)
set_option maxRecDepth 20000 in
theorem gX9_set_X9_settle : GoodIn wsX9_set (wsV RX9 41 RX9 yX9_settle wsX9_settle) := goodIn_app (goodIn_of _ (by decide +kernel)) ggX9_set_X9_settle
theorem dX9_set_0 : decode cX9_set 0 = .ok (.aload_n 0, 1) := by decide +kernel
theorem dX9_set_1 : decode cX9_set 1 = .ok (.getfield 16, 3) := by decide +kernel
theorem dX9_set_4 : decode cX9_set 4 = .ok (.aload_n 0, 1) := by decide +kernel
theorem dX9_set_5 : decode cX9_set 5 = .ok (.getfield 10, 3) := by decide +kernel
theorem dX9_set_8 : decode cX9_set 8 = .ok (.invokevirtual 33, 3) := by decide +kernel
theorem dX9_set_11 : decode cX9_set 11 = .ok (.aload_n 0, 1) := by decide +kernel
theorem dX9_set_12 : decode cX9_set 12 = .ok (.aload_n 0, 1) := by decide +kernel
theorem dX9_set_13 : decode cX9_set 13 = .ok (.getfield 16, 3) := by decide +kernel
theorem dX9_set_16 : decode cX9_set 16 = .ok (.getfield 58, 3) := by decide +kernel
theorem dX9_set_19 : decode cX9_set 19 = .ok (.iload_n 1, 1) := by decide +kernel
theorem dX9_set_20 : decode cX9_set 20 = .ok (.iload_n 2, 1) := by decide +kernel
theorem dX9_set_21 : decode cX9_set 21 = .ok (.invokevirtual 62, 3) := by decide +kernel
theorem dX9_set_24 : decode cX9_set 24 = .ok (.invokevirtual 41, 3) := by decide +kernel
theorem dX9_set_27 : decode cX9_set 27 = .ok (.ireturn, 1) := by decide +kernel
set_option maxRecDepth 20000 in
theorem ggX9_ringOf_X9_isWithin : GoodIn wsX9_ringOf wsX9_isWithin := goodIn_r _ [6] (by decide +kernel) (by decide +kernel)
set_option maxRecDepth 20000 in
theorem gX9_ringOf_X9_isWithin : GoodIn wsX9_ringOf (va_wsS RX9 68 yX9_isWithin wsX9_isWithin) := goodIn_app (goodIn_of _ (by decide +kernel)) ggX9_ringOf_X9_isWithin
set_option maxRecDepth 20000 in
theorem ggX9_ringOf_X6_ringAt : GoodIn wsX9_ringOf wsX6_ringAt := goodIn_r _ [11, 12, 13, 31, 32, 33, 34, 35, 36, 37, 38, 39] (by decide +kernel) (by decide +kernel)
set_option maxRecDepth 20000 in
theorem gX9_ringOf_X6_ringAt : GoodIn wsX9_ringOf (wsV RX9 73 RX6 yX6_ringAt wsX6_ringAt) := goodIn_app (goodIn_of _ (by decide +kernel)) ggX9_ringOf_X6_ringAt
set_option maxRecDepth 20000 in
theorem ggX9_ringOf_X4_tell : GoodIn wsX9_ringOf wsX4_tell := goodIn_r _ [18, 19, 20, 21, 22, 23, 24, 25, 17, 26, 40, 41, 42] (by decide +kernel) (by decide +kernel)
set_option maxRecDepth 20000 in
theorem gX9_ringOf_X4_tell : GoodIn wsX9_ringOf (wsV RX9 77 RX4 yX4_tell wsX4_tell) := goodIn_app (goodIn_of _ (by decide +kernel)) ggX9_ringOf_X4_tell
theorem dX9_ringOf_0 : decode cX9_ringOf 0 = .ok (.iload_n 1, 1) := by decide +kernel
theorem dX9_ringOf_1 : decode cX9_ringOf 1 = .ok (.iconst 0, 1) := by decide +kernel
theorem dX9_ringOf_2 : decode cX9_ringOf 2 = .ok (.iconst 1, 1) := by decide +kernel
theorem dX9_ringOf_3 : decode cX9_ringOf 3 = .ok (.invokestatic 68, 3) := by decide +kernel
theorem dX9_ringOf_6 : decode cX9_ringOf 6 = .ok (.ifCond .ne 6, 3) := by decide +kernel
