theorem dX3_isNumberRead_15 : decode cX3_isNumberRead 15 = .ok (.isub, 1) := by decide +kernel
theorem dX3_isNumberRead_16 : decode cX3_isNumberRead 16 = .ok (.iconst 3, 1) := by decide +kernel
theorem dX3_isNumberRead_17 : decode cX3_isNumberRead 17 = .ok (.if_icmp .ge 63, 3) := by decide +kernel
theorem dX3_isNumberRead_20 : decode cX3_isNumberRead 20 = .ok (.aload_n 0, 1) := by decide +kernel
theorem dX3_isNumberRead_21 : decode cX3_isNumberRead 21 = .ok (.getfield 40, 3) := by decide +kernel
theorem dX3_isNumberRead_24 : decode cX3_isNumberRead 24 = .ok (.aload_n 0, 1) := by decide +kernel
theorem dX3_isNumberRead_25 : decode cX3_isNumberRead 25 = .ok (.getfield 13, 3) := by decide +kernel
theorem dX3_isNumberRead_28 : decode cX3_isNumberRead 28 = .ok (.invokevirtual 55, 3) := by decide +kernel
theorem dX3_isNumberRead_31 : decode cX3_isNumberRead 31 = .ok (.bipush 48, 2) := by decide +kernel
theorem dX3_isNumberRead_33 : decode cX3_isNumberRead 33 = .ok (.bipush 57, 2) := by decide +kernel
theorem dX3_isNumberRead_35 : decode cX3_isNumberRead 35 = .ok (.invokestatic 69, 3) := by decide +kernel
theorem dX3_isNumberRead_38 : decode cX3_isNumberRead 38 = .ok (.ifCond .eq 42, 3) := by decide +kernel
theorem dX3_isNumberRead_41 : decode cX3_isNumberRead 41 = .ok (.aload_n 0, 1) := by decide +kernel
theorem dX3_isNumberRead_42 : decode cX3_isNumberRead 42 = .ok (.aload_n 0, 1) := by decide +kernel
theorem dX3_isNumberRead_43 : decode cX3_isNumberRead 43 = .ok (.getfield 30, 3) := by decide +kernel
theorem dX3_isNumberRead_46 : decode cX3_isNumberRead 46 = .ok (.bipush 10, 2) := by decide +kernel
theorem dX3_isNumberRead_48 : decode cX3_isNumberRead 48 = .ok (.imul, 1) := by decide +kernel
theorem dX3_isNumberRead_49 : decode cX3_isNumberRead 49 = .ok (.aload_n 0, 1) := by decide +kernel
theorem dX3_isNumberRead_50 : decode cX3_isNumberRead 50 = .ok (.getfield 40, 3) := by decide +kernel
theorem dX3_isNumberRead_53 : decode cX3_isNumberRead 53 = .ok (.aload_n 0, 1) := by decide +kernel
theorem dX3_isNumberRead_54 : decode cX3_isNumberRead 54 = .ok (.getfield 13, 3) := by decide +kernel
theorem dX3_isNumberRead_57 : decode cX3_isNumberRead 57 = .ok (.invokevirtual 55, 3) := by decide +kernel
theorem dX3_isNumberRead_60 : decode cX3_isNumberRead 60 = .ok (.iadd, 1) := by decide +kernel
theorem dX3_isNumberRead_61 : decode cX3_isNumberRead 61 = .ok (.bipush 48, 2) := by decide +kernel
theorem dX3_isNumberRead_63 : decode cX3_isNumberRead 63 = .ok (.isub, 1) := by decide +kernel
theorem dX3_isNumberRead_64 : decode cX3_isNumberRead 64 = .ok (.putfield 30, 3) := by decide +kernel
theorem dX3_isNumberRead_67 : decode cX3_isNumberRead 67 = .ok (.aload_n 0, 1) := by decide +kernel
theorem dX3_isNumberRead_68 : decode cX3_isNumberRead 68 = .ok (.dup, 1) := by decide +kernel
theorem dX3_isNumberRead_69 : decode cX3_isNumberRead 69 = .ok (.getfield 13, 3) := by decide +kernel
theorem dX3_isNumberRead_72 : decode cX3_isNumberRead 72 = .ok (.iconst 1, 1) := by decide +kernel
theorem dX3_isNumberRead_73 : decode cX3_isNumberRead 73 = .ok (.iadd, 1) := by decide +kernel
theorem dX3_isNumberRead_74 : decode cX3_isNumberRead 74 = .ok (.putfield 13, 3) := by decide +kernel
theorem dX3_isNumberRead_77 : decode cX3_isNumberRead 77 = .ok (.goto (-67), 3) := by decide +kernel
theorem dX3_isNumberRead_80 : decode cX3_isNumberRead 80 = .ok (.aload_n 0, 1) := by decide +kernel
theorem dX3_isNumberRead_81 : decode cX3_isNumberRead 81 = .ok (.getfield 13, 3) := by decide +kernel
theorem dX3_isNumberRead_84 : decode cX3_isNumberRead 84 = .ok (.iload_n 1, 1) := by decide +kernel
theorem dX3_isNumberRead_85 : decode cX3_isNumberRead 85 = .ok (.if_icmp .le 7, 3) := by decide +kernel
theorem dX3_isNumberRead_88 : decode cX3_isNumberRead 88 = .ok (.iconst 1, 1) := by decide +kernel
theorem dX3_isNumberRead_89 : decode cX3_isNumberRead 89 = .ok (.goto 4, 3) := by decide +kernel
theorem dX3_isNumberRead_92 : decode cX3_isNumberRead 92 = .ok (.iconst 0, 1) := by decide +kernel
theorem dX3_isNumberRead_93 : decode cX3_isNumberRead 93 = .ok (.ireturn, 1) := by decide +kernel
set_option maxRecDepth 20000 in
theorem ggX3_isSkipped_X8_at : GoodIn wsX3_isSkipped wsX8_at := goodIn_r _ [7, 8, 9, 10, 11, 12, 13, 14, 15, 16, 27, 28] (by decide +kernel) (by decide +kernel)
set_option maxRecDepth 20000 in
theorem gX3_isSkipped_X8_at : GoodIn wsX3_isSkipped (wsV RX3 55 RX8 yX8_at wsX8_at) := goodIn_app (goodIn_of _ (by decide +kernel)) ggX3_isSkipped_X8_at
theorem dX3_isSkipped_0 : decode cX3_isSkipped 0 = .ok (.aload_n 0, 1) := by decide +kernel
theorem dX3_isSkipped_1 : decode cX3_isSkipped 1 = .ok (.getfield 40, 3) := by decide +kernel
theorem dX3_isSkipped_4 : decode cX3_isSkipped 4 = .ok (.aload_n 0, 1) := by decide +kernel
theorem dX3_isSkipped_5 : decode cX3_isSkipped 5 = .ok (.getfield 13, 3) := by decide +kernel
theorem dX3_isSkipped_8 : decode cX3_isSkipped 8 = .ok (.invokevirtual 55, 3) := by decide +kernel
theorem dX3_isSkipped_11 : decode cX3_isSkipped 11 = .ok (.iload_n 1, 1) := by decide +kernel
theorem dX3_isSkipped_12 : decode cX3_isSkipped 12 = .ok (.if_icmp .eq 5, 3) := by decide +kernel
theorem dX3_isSkipped_15 : decode cX3_isSkipped 15 = .ok (.iconst 0, 1) := by decide +kernel
theorem dX3_isSkipped_16 : decode cX3_isSkipped 16 = .ok (.ireturn, 1) := by decide +kernel
theorem dX3_isSkipped_17 : decode cX3_isSkipped 17 = .ok (.aload_n 0, 1) := by decide +kernel
theorem dX3_isSkipped_18 : decode cX3_isSkipped 18 = .ok (.dup, 1) := by decide +kernel
theorem dX3_isSkipped_19 : decode cX3_isSkipped 19 = .ok (.getfield 13, 3) := by decide +kernel
theorem dX3_isSkipped_22 : decode cX3_isSkipped 22 = .ok (.iconst 1, 1) := by decide +kernel
theorem dX3_isSkipped_23 : decode cX3_isSkipped 23 = .ok (.iadd, 1) := by decide +kernel
theorem dX3_isSkipped_24 : decode cX3_isSkipped 24 = .ok (.putfield 13, 3) := by decide +kernel
theorem dX3_isSkipped_27 : decode cX3_isSkipped 27 = .ok (.iconst 1, 1) := by decide +kernel
theorem dX3_isSkipped_28 : decode cX3_isSkipped 28 = .ok (.ireturn, 1) := by decide +kernel
set_option maxRecDepth 20000 in
theorem ggX3_doOn_X6_changeRing : GoodIn wsX3_doOn wsX6_changeRing := goodIn_r _ [9, 10, 11, 12, 13, 14, 15, 16, 17, 18, 19, 8, 20, 21, 22, 170, 171, 172, 173, 174, 175, 176, 177, 178, 179, 180, 181] (by decide +kernel) (by decide +kernel)
set_option maxRecDepth 20000 in
theorem gX3_doOn_X6_changeRing : GoodIn wsX3_doOn (wsV RX3 75 RX6 yX6_changeRing wsX6_changeRing) := goodIn_app (goodIn_of _ (by decide +kernel)) ggX3_doOn_X6_changeRing
set_option maxRecDepth 20000 in
theorem ggX3_doOn_X6_makeSamples : GoodIn wsX3_doOn wsX6_makeSamples := goodIn_r _ [26, 10, 27, 28, 14, 15, 16, 29, 30, 31, 8, 32, 21, 33, 34, 22, 35, 36, 37, 38, 39, 40, 41, 42, 43, 44, 45, 46, 47, 48, 49, 50, 51, 52, 53, 54, 11, 55, 56, 57, 58, 59, 60, 61, 62, 63, 64, 65, 66, 67, 68, 69, 70, 71, 72, 73, 74, 75, 76, 77, 78, 79, 80, 81, 82, 83, 84, 85, 86, 87, 88, 89, 90, 91, 92, 93, 94, 95, 96, 97, 98, 99, 100, 101, 102, 103, 104, 105, 106, 107, 108, 109, 110, 111, 112, 113, 114, 115, 116, 117, 118, 119, 120, 121, 122, 123, 124, 125, 126, 127, 128, 129, 130, 131, 173, 174, 175, 176, 177, 178, 179, 180, 181, 182, 183, 184, 185, 186, 187, 188, 189, 190, 191, 192, 193, 170, 171, 172, 194, 195, 196, 197, 198, 199, 200, 201, 202] (by decide +kernel) (by decide +kernel)
set_option maxRecDepth 20000 in
theorem gX3_doOn_X6_makeSamples : GoodIn wsX3_doOn (wsV RX3 81 RX6 yX6_makeSamples wsX6_makeSamples) := goodIn_app (goodIn_of _ (by decide +kernel)) ggX3_doOn_X6_makeSamples
set_option maxRecDepth 20000 in
theorem ggX3_doOn_X6_drawBits : GoodIn wsX3_doOn wsX6_drawBits := goodIn_r _ [135, 10, 126, 136, 75, 76, 137, 27, 138, 14, 15, 16, 139, 140, 141, 87, 142, 90, 89, 173, 174, 175, 176, 177, 178, 179, 180, 181, 201, 202, 194, 195, 196, 197, 198, 199, 200, 182, 183, 184, 185, 186, 187, 188, 189] (by decide +kernel) (by decide +kernel)
set_option maxRecDepth 20000 in
theorem gX3_doOn_X6_drawBits : GoodIn wsX3_doOn (wsV RX3 85 RX6 yX6_drawBits wsX6_drawBits) := goodIn_app (goodIn_of _ (by decide +kernel)) ggX3_doOn_X6_drawBits
set_option maxRecDepth 20000 in
theorem ggX3_doOn_X6_startAnew : GoodIn wsX3_doOn wsX6_startAnew := goodIn_r _ [146, 126, 136, 75, 83, 147, 148, 149, 87, 150, 89, 90, 151, 152, 153, 94, 154, 99, 115, 120, 97, 104, 109, 110, 173, 174, 175, 176, 177, 178, 179, 180, 181, 201, 202, 194, 195, 196, 197, 198, 199, 200] (by decide +kernel) (by decide +kernel)
set_option maxRecDepth 20000 in
theorem gX3_doOn_X6_startAnew : GoodIn wsX3_doOn (wsV RX3 88 RX6 yX6_startAnew wsX6_startAnew) := goodIn_app (goodIn_of _ (by decide +kernel)) ggX3_doOn_X6_startAnew
set_option maxRecDepth 20000 in
theorem ggX3_doOn_X6_changeNoise : GoodIn wsX3_doOn wsX6_changeNoise := goodIn_r _ [158, 159, 10, 39, 14, 15, 16, 173, 174, 175, 176, 177, 178, 179, 180, 181] (by decide +kernel) (by decide +kernel)
set_option maxRecDepth 20000 in
theorem gX3_doOn_X6_changeNoise : GoodIn wsX3_doOn (wsV RX3 92 RX6 yX6_changeNoise wsX6_changeNoise) := goodIn_app (goodIn_of _ (by decide +kernel)) ggX3_doOn_X6_changeNoise
theorem dX3_doOn_0 : decode cX3_doOn 0 = .ok (.aload_n 0, 1) := by decide +kernel
theorem dX3_doOn_1 : decode cX3_doOn 1 = .ok (.getfield 27, 3) := by decide +kernel
theorem dX3_doOn_4 : decode cX3_doOn 4 = .ok (.lookupswitch 84 #[(100, 70), (110, 79), (114, 44), (115, 61)], 44) := by decide +kernel
theorem dX3_doOn_48 : decode cX3_doOn 48 = .ok (.aload_n 1, 1) := by decide +kernel
theorem dX3_doOn_49 : decode cX3_doOn 49 = .ok (.aload_n 0, 1) := by decide +kernel
theorem dX3_doOn_50 : decode cX3_doOn 50 = .ok (.getfield 33, 3) := by decide +kernel
theorem dX3_doOn_53 : decode cX3_doOn 53 = .ok (.aload_n 0, 1) := by decide +kernel
theorem dX3_doOn_54 : decode cX3_doOn 54 = .ok (.getfield 36, 3) := by decide +kernel
theorem dX3_doOn_57 : decode cX3_doOn 57 = .ok (.aload_n 0, 1) := by decide +kernel
theorem dX3_doOn_58 : decode cX3_doOn 58 = .ok (.getfield 30, 3) := by decide +kernel
theorem dX3_doOn_61 : decode cX3_doOn 61 = .ok (.invokevirtual 75, 3) := by decide +kernel
theorem dX3_doOn_64 : decode cX3_doOn 64 = .ok (.ireturn, 1) := by decide +kernel
theorem dX3_doOn_65 : decode cX3_doOn 65 = .ok (.aload_n 1, 1) := by decide +kernel
theorem dX3_doOn_66 : decode cX3_doOn 66 = .ok (.aload_n 0, 1) := by decide +kernel
theorem dX3_doOn_67 : decode cX3_doOn 67 = .ok (.getfield 30, 3) := by decide +kernel
theorem dX3_doOn_70 : decode cX3_doOn 70 = .ok (.invokevirtual 81, 3) := by decide +kernel
theorem dX3_doOn_73 : decode cX3_doOn 73 = .ok (.ireturn, 1) := by decide +kernel
theorem dX3_doOn_74 : decode cX3_doOn 74 = .ok (.aload_n 1, 1) := by decide +kernel
theorem dX3_doOn_75 : decode cX3_doOn 75 = .ok (.aload_n 0, 1) := by decide +kernel
theorem dX3_doOn_76 : decode cX3_doOn 76 = .ok (.getfield 30, 3) := by decide +kernel
theorem dX3_doOn_79 : decode cX3_doOn 79 = .ok (.invokevirtual 85, 3) := by decide +kernel
theorem dX3_doOn_82 : decode cX3_doOn 82 = .ok (.ireturn, 1) := by decide +kernel
theorem dX3_doOn_83 : decode cX3_doOn 83 = .ok (.aload_n 1, 1) := by decide +kernel
theorem dX3_doOn_84 : decode cX3_doOn 84 = .ok (.invokevirtual 88, 3) := by decide +kernel
theorem dX3_doOn_87 : decode cX3_doOn 87 = .ok (.ireturn, 1) := by decide +kernel
theorem dX3_doOn_88 : decode cX3_doOn 88 = .ok (.aload_n 1, 1) := by decide +kernel
theorem dX3_doOn_89 : decode cX3_doOn 89 = .ok (.aload_n 0, 1) := by decide +kernel
theorem dX3_doOn_90 : decode cX3_doOn 90 = .ok (.getfield 30, 3) := by decide +kernel
theorem dX3_doOn_93 : decode cX3_doOn 93 = .ok (.invokevirtual 92, 3) := by decide +kernel
theorem dX3_doOn_96 : decode cX3_doOn 96 = .ok (.ireturn, 1) := by decide +kernel
theorem dX4_init_0 : decode cX4_init 0 = .ok (.aload_n 0, 1) := by decide +kernel
theorem dX4_init_1 : decode cX4_init 1 = .ok (.invokespecial 3, 3) := by decide +kernel
theorem dX4_init_4 : decode cX4_init 4 = .ok (.aload_n 0, 1) := by decide +kernel
theorem dX4_init_5 : decode cX4_init 5 = .ok (.bipush 7, 2) := by decide +kernel
theorem dX4_init_7 : decode cX4_init 7 = .ok (.putfield 9, 3) := by decide +kernel
theorem dX4_init_10 : decode cX4_init 10 = .ok (.aload_n 0, 1) := by decide +kernel
theorem dX4_init_11 : decode cX4_init 11 = .ok (.iconst 0, 1) := by decide +kernel
theorem dX4_init_12 : decode cX4_init 12 = .ok (.putfield 15, 3) := by decide +kernel
theorem dX4_init_15 : decode cX4_init 15 = .ok (.aload_n 0, 1) := by decide +kernel
theorem dX4_init_16 : decode cX4_init 16 = .ok (.iload_n 1, 1) := by decide +kernel
theorem dX4_init_17 : decode cX4_init 17 = .ok (.putfield 18, 3) := by decide +kernel
theorem dX4_init_20 : decode cX4_init 20 = .ok (.return_, 1) := by decide +kernel
theorem dX4_copyFrom_0 : decode cX4_copyFrom 0 = .ok (.aload_n 0, 1) := by decide +kernel
theorem dX4_copyFrom_1 : decode cX4_copyFrom 1 = .ok (.aload_n 1, 1) := by decide +kernel
theorem dX4_copyFrom_2 : decode cX4_copyFrom 2 = .ok (.getfield 18, 3) := by decide +kernel
theorem dX4_copyFrom_5 : decode cX4_copyFrom 5 = .ok (.putfield 18, 3) := by decide +kernel
theorem dX4_copyFrom_8 : decode cX4_copyFrom 8 = .ok (.aload_n 0, 1) := by decide +kernel
theorem dX4_copyFrom_9 : decode cX4_copyFrom 9 = .ok (.aload_n 1, 1) := by decide +kernel
theorem dX4_copyFrom_10 : decode cX4_copyFrom 10 = .ok (.getfield 9, 3) := by decide +kernel
theorem dX4_copyFrom_13 : decode cX4_copyFrom 13 = .ok (.putfield 9, 3) := by decide +kernel
theorem dX4_copyFrom_16 : decode cX4_copyFrom 16 = .ok (.aload_n 0, 1) := by decide +kernel
theorem dX4_copyFrom_17 : decode cX4_copyFrom 17 = .ok (.aload_n 1, 1) := by decide +kernel
theorem dX4_copyFrom_18 : decode cX4_copyFrom 18 = .ok (.getfield 15, 3) := by decide +kernel
theorem dX4_copyFrom_21 : decode cX4_copyFrom 21 = .ok (.putfield 15, 3) := by decide +kernel
theorem dX4_copyFrom_24 : decode cX4_copyFrom 24 = .ok (.return_, 1) := by decide +kernel
theorem dX4_isHigh_0 : decode cX4_isHigh 0 = .ok (.aload_n 0, 1) := by decide +kernel
theorem dX4_isHigh_1 : decode cX4_isHigh 1 = .ok (.getfield 15, 3) := by decide +kernel
theorem dX4_isHigh_4 : decode cX4_isHigh 4 = .ok (.aload_n 0, 1) := by decide +kernel
theorem dX4_isHigh_5 : decode cX4_isHigh 5 = .ok (.getfield 18, 3) := by decide +kernel
theorem dX4_isHigh_8 : decode cX4_isHigh 8 = .ok (.iconst 2, 1) := by decide +kernel
theorem dX4_isHigh_9 : decode cX4_isHigh 9 = .ok (.idiv, 1) := by decide +kernel
theorem dX4_isHigh_10 : decode cX4_isHigh 10 = .ok (.if_icmp .ge 7, 3) := by decide +kernel
theorem dX4_isHigh_13 : decode cX4_isHigh 13 = .ok (.iconst 1, 1) := by decide +kernel
theorem dX4_isHigh_14 : decode cX4_isHigh 14 = .ok (.goto 4, 3) := by decide +kernel
theorem dX4_isHigh_17 : decode cX4_isHigh 17 = .ok (.iconst 0, 1) := by decide +kernel
theorem dX4_isHigh_18 : decode cX4_isHigh 18 = .ok (.ireturn, 1) := by decide +kernel
set_option maxRecDepth 20000 in
theorem ggX4_advance_X9_remainder : GoodIn wsX4_advance wsX9_remainder := goodIn_r _ [6] (by decide +kernel) (by decide +kernel)
set_option maxRecDepth 20000 in
theorem gX4_advance_X9_remainder_n21 : GoodIn wsX4_advance (wsX9_remainder) := ggX4_advance_X9_remainder
theorem dX4_advance_0 : decode cX4_advance 0 = .ok (.aload_n 0, 1) := by decide +kernel
theorem dX4_advance_1 : decode cX4_advance 1 = .ok (.aload_n 0, 1) := by decide +kernel
theorem dX4_advance_2 : decode cX4_advance 2 = .ok (.getfield 15, 3) := by decide +kernel
theorem dX4_advance_5 : decode cX4_advance 5 = .ok (.iload_n 1, 1) := by decide +kernel
theorem dX4_advance_6 : decode cX4_advance 6 = .ok (.iadd, 1) := by decide +kernel
theorem dX4_advance_7 : decode cX4_advance 7 = .ok (.iload_n 2, 1) := by decide +kernel
theorem dX4_advance_8 : decode cX4_advance 8 = .ok (.aload_n 0, 1) := by decide +kernel
theorem dX4_advance_9 : decode cX4_advance 9 = .ok (.getfield 9, 3) := by decide +kernel
theorem dX4_advance_12 : decode cX4_advance 12 = .ok (.iconst 1, 1) := by decide +kernel
theorem dX4_advance_13 : decode cX4_advance 13 = .ok (.iadd, 1) := by decide +kernel
theorem dX4_advance_14 : decode cX4_advance 14 = .ok (.invokestatic 21, 3) := by decide +kernel
theorem dX4_advance_17 : decode cX4_advance 17 = .ok (.iadd, 1) := by decide +kernel
theorem dX4_advance_18 : decode cX4_advance 18 = .ok (.aload_n 0, 1) := by decide +kernel
theorem dX4_advance_19 : decode cX4_advance 19 = .ok (.getfield 18, 3) := by decide +kernel
theorem dX4_advance_22 : decode cX4_advance 22 = .ok (.invokestatic 21, 3) := by decide +kernel
theorem dX4_advance_25 : decode cX4_advance 25 = .ok (.putfield 15, 3) := by decide +kernel
theorem dX4_advance_28 : decode cX4_advance 28 = .ok (.return_, 1) := by decide +kernel
set_option maxRecDepth 20000 in
theorem ggX4_lockOn_X9_remainder : GoodIn wsX4_lockOn wsX9_remainder := goodIn_r _ [5] (by decide +kernel) (by decide +kernel)
set_option maxRecDepth 20000 in
theorem gX4_lockOn_X9_remainder_n21 : GoodIn wsX4_lockOn (wsX9_remainder) := ggX4_lockOn_X9_remainder
theorem dX4_lockOn_0 : decode cX4_lockOn 0 = .ok (.aload_n 0, 1) := by decide +kernel
theorem dX4_lockOn_1 : decode cX4_lockOn 1 = .ok (.aload_n 1, 1) := by decide +kernel
theorem dX4_lockOn_2 : decode cX4_lockOn 2 = .ok (.getfield 15, 3) := by decide +kernel
theorem dX4_lockOn_5 : decode cX4_lockOn 5 = .ok (.aload_n 0, 1) := by decide +kernel
theorem dX4_lockOn_6 : decode cX4_lockOn 6 = .ok (.getfield 18, 3) := by decide +kernel
theorem dX4_lockOn_9 : decode cX4_lockOn 9 = .ok (.invokestatic 21, 3) := by decide +kernel
theorem dX4_lockOn_12 : decode cX4_lockOn 12 = .ok (.putfield 15, 3) := by decide +kernel
theorem dX4_lockOn_15 : decode cX4_lockOn 15 = .ok (.return_, 1) := by decide +kernel
set_option maxRecDepth 20000 in
theorem ggX4_tell_X4_isHigh : GoodIn wsX4_tell wsX4_isHigh := goodIn_r _ [9, 3, 1, 10, 11, 12] (by decide +kernel) (by decide +kernel)
set_option maxRecDepth 20000 in
theorem gX4_tell_X4_isHigh : GoodIn wsX4_tell (wsV RX4 25 RX4 yX4_isHigh wsX4_isHigh) := goodIn_app (goodIn_of _ (by decide +kernel)) ggX4_tell_X4_isHigh
theorem dX4_tell_0 : decode cX4_tell 0 = .ok (.iload_n 1, 1) := by decide +kernel
theorem dX4_tell_1 : decode cX4_tell 1 = .ok (.tableswitch 59 0 3 #[31, 36, 41, 46], 31) := by decide +kernel
theorem dX4_tell_32 : decode cX4_tell 32 = .ok (.aload_n 0, 1) := by decide +kernel
theorem dX4_tell_33 : decode cX4_tell 33 = .ok (.getfield 18, 3) := by decide +kernel
theorem dX4_tell_36 : decode cX4_tell 36 = .ok (.ireturn, 1) := by decide +kernel
theorem dX4_tell_37 : decode cX4_tell 37 = .ok (.aload_n 0, 1) := by decide +kernel
theorem dX4_tell_38 : decode cX4_tell 38 = .ok (.getfield 9, 3) := by decide +kernel
theorem dX4_tell_41 : decode cX4_tell 41 = .ok (.ireturn, 1) := by decide +kernel
theorem dX4_tell_42 : decode cX4_tell 42 = .ok (.aload_n 0, 1) := by decide +kernel
theorem dX4_tell_43 : decode cX4_tell 43 = .ok (.getfield 15, 3) := by decide +kernel
theorem dX4_tell_46 : decode cX4_tell 46 = .ok (.ireturn, 1) := by decide +kernel
theorem dX4_tell_47 : decode cX4_tell 47 = .ok (.aload_n 0, 1) := by decide +kernel
theorem dX4_tell_48 : decode cX4_tell 48 = .ok (.invokevirtual 25, 3) := by decide +kernel
theorem dX4_tell_51 : decode cX4_tell 51 = .ok (.ifCond .eq 7, 3) := by decide +kernel
theorem dX4_tell_54 : decode cX4_tell 54 = .ok (.iconst 1, 1) := by decide +kernel
theorem dX4_tell_55 : decode cX4_tell 55 = .ok (.goto 4, 3) := by decide +kernel
theorem dX4_tell_58 : decode cX4_tell 58 = .ok (.iconst 0, 1) := by decide +kernel
theorem dX4_tell_59 : decode cX4_tell 59 = .ok (.ireturn, 1) := by decide +kernel
theorem dX4_tell_60 : decode cX4_tell 60 = .ok (.ldc 29, 2) := by decide +kernel
theorem dX4_tell_62 : decode cX4_tell 62 = .ok (.ireturn, 1) := by decide +kernel
theorem dX5_init_0 : decode cX5_init 0 = .ok (.aload_n 0, 1) := by decide +kernel
theorem dX5_init_1 : decode cX5_init 1 = .ok (.invokespecial 3, 3) := by decide +kernel
theorem dX5_init_4 : decode cX5_init 4 = .ok (.aload_n 0, 1) := by decide +kernel
theorem dX5_init_5 : decode cX5_init 5 = .ok (.bipush 37, 2) := by decide +kernel
theorem dX5_init_7 : decode cX5_init 7 = .ok (.putfield 9, 3) := by decide +kernel
theorem dX5_init_10 : decode cX5_init 10 = .ok (.aload_n 0, 1) := by decide +kernel
theorem dX5_init_11 : decode cX5_init 11 = .ok (.iconst 2, 1) := by decide +kernel
theorem dX5_init_12 : decode cX5_init 12 = .ok (.putfield 15, 3) := by decide +kernel
theorem dX5_init_15 : decode cX5_init 15 = .ok (.aload_n 0, 1) := by decide +kernel
theorem dX5_init_16 : decode cX5_init 16 = .ok (.bipush 12, 2) := by decide +kernel
theorem dX5_init_18 : decode cX5_init 18 = .ok (.putfield 18, 3) := by decide +kernel
theorem dX5_init_21 : decode cX5_init 21 = .ok (.aload_n 0, 1) := by decide +kernel
theorem dX5_init_22 : decode cX5_init 22 = .ok (.bipush 6, 2) := by decide +kernel
theorem dX5_init_24 : decode cX5_init 24 = .ok (.putfield 21, 3) := by decide +kernel
theorem dX5_init_27 : decode cX5_init 27 = .ok (.return_, 1) := by decide +kernel
theorem dX5_copyFrom_0 : decode cX5_copyFrom 0 = .ok (.aload_n 0, 1) := by decide +kernel
theorem dX5_copyFrom_1 : decode cX5_copyFrom 1 = .ok (.aload_n 1, 1) := by decide +kernel
theorem dX5_copyFrom_2 : decode cX5_copyFrom 2 = .ok (.getfield 9, 3) := by decide +kernel
theorem dX5_copyFrom_5 : decode cX5_copyFrom 5 = .ok (.putfield 9, 3) := by decide +kernel
theorem dX5_copyFrom_8 : decode cX5_copyFrom 8 = .ok (.aload_n 0, 1) := by decide +kernel
theorem dX5_copyFrom_9 : decode cX5_copyFrom 9 = .ok (.aload_n 1, 1) := by decide +kernel
theorem dX5_copyFrom_10 : decode cX5_copyFrom 10 = .ok (.getfield 15, 3) := by decide +kernel
theorem dX5_copyFrom_13 : decode cX5_copyFrom 13 = .ok (.putfield 15, 3) := by decide +kernel
theorem dX5_copyFrom_16 : decode cX5_copyFrom 16 = .ok (.aload_n 0, 1) := by decide +kernel
theorem dX5_copyFrom_17 : decode cX5_copyFrom 17 = .ok (.aload_n 1, 1) := by decide +kernel
theorem dX5_copyFrom_18 : decode cX5_copyFrom 18 = .ok (.getfield 18, 3) := by decide +kernel
theorem dX5_copyFrom_21 : decode cX5_copyFrom 21 = .ok (.putfield 18, 3) := by decide +kernel
theorem dX5_copyFrom_24 : decode cX5_copyFrom 24 = .ok (.aload_n 0, 1) := by decide +kernel
theorem dX5_copyFrom_25 : decode cX5_copyFrom 25 = .ok (.aload_n 1, 1) := by decide +kernel
theorem dX5_copyFrom_26 : decode cX5_copyFrom 26 = .ok (.getfield 21, 3) := by decide +kernel
theorem dX5_copyFrom_29 : decode cX5_copyFrom 29 = .ok (.putfield 21, 3) := by decide +kernel
theorem dX5_copyFrom_32 : decode cX5_copyFrom 32 = .ok (.return_, 1) := by decide +kernel
theorem dX5_tell_0 : decode cX5_tell 0 = .ok (.iload_n 1, 1) := by decide +kernel
theorem dX5_tell_1 : decode cX5_tell 1 = .ok (.tableswitch 51 0 3 #[31, 36, 41, 46], 31) := by decide +kernel
theorem dX5_tell_32 : decode cX5_tell 32 = .ok (.aload_n 0, 1) := by decide +kernel
theorem dX5_tell_33 : decode cX5_tell 33 = .ok (.getfield 9, 3) := by decide +kernel
theorem dX5_tell_36 : decode cX5_tell 36 = .ok (.ireturn, 1) := by decide +kernel
theorem dX5_tell_37 : decode cX5_tell 37 = .ok (.aload_n 0, 1) := by decide +kernel
theorem dX5_tell_38 : decode cX5_tell 38 = .ok (.getfield 15, 3) := by decide +kernel
theorem dX5_tell_41 : decode cX5_tell 41 = .ok (.ireturn, 1) := by decide +kernel
theorem dX5_tell_42 : decode cX5_tell 42 = .ok (.aload_n 0, 1) := by decide +kernel
theorem dX5_tell_43 : decode cX5_tell 43 = .ok (.getfield 18, 3) := by decide +kernel
theorem dX5_tell_46 : decode cX5_tell 46 = .ok (.ireturn, 1) := by decide +kernel
theorem dX5_tell_47 : decode cX5_tell 47 = .ok (.aload_n 0, 1) := by decide +kernel
theorem dX5_tell_48 : decode cX5_tell 48 = .ok (.getfield 21, 3) := by decide +kernel
theorem dX5_tell_51 : decode cX5_tell 51 = .ok (.ireturn, 1) := by decide +kernel
theorem dX5_tell_52 : decode cX5_tell 52 = .ok (.ldc 24, 2) := by decide +kernel
theorem dX5_tell_54 : decode cX5_tell 54 = .ok (.ireturn, 1) := by decide +kernel
set_option maxRecDepth 20000 in
theorem ggX5_change_X5_isAllowed : GoodIn wsX5_change wsX5_isAllowed := goodIn_r _ [9, 10, 11, 12] (by decide +kernel) (by decide +kernel)
set_option maxRecDepth 20000 in
theorem gX5_change_X5_isAllowed : GoodIn wsX5_change (va_wsS RX5 25 yX5_isAllowed wsX5_isAllowed) := goodIn_app (goodIn_of _ (by decide +kernel)) ggX5_change_X5_isAllowed
set_option maxRecDepth 20000 in
theorem ggX5_change_X5_tell : GoodIn wsX5_change wsX5_tell := goodIn_r _ [16, 2, 3, 4, 5, 1, 17, 18, 19, 20] (by decide +kernel) (by decide +kernel)
set_option maxRecDepth 20000 in
theorem gX5_change_X5_tell : GoodIn wsX5_change (wsV RX5 29 RX5 yX5_tell wsX5_tell) := goodIn_app (goodIn_of _ (by decide +kernel)) ggX5_change_X5_tell
theorem dX5_change_0 : decode cX5_change 0 = .ok (.iload_n 1, 1) := by decide +kernel
theorem dX5_change_1 : decode cX5_change 1 = .ok (.iload_n 2, 1) := by decide +kernel
theorem dX5_change_2 : decode cX5_change 2 = .ok (.invokestatic 25, 3) := by decide +kernel
theorem dX5_change_5 : decode cX5_change 5 = .ok (.ifCond .ne 6, 3) := by decide +kernel
theorem dX5_change_8 : decode cX5_change 8 = .ok (.ldc 24, 2) := by decide +kernel
theorem dX5_change_10 : decode cX5_change 10 = .ok (.ireturn, 1) := by decide +kernel
theorem dX5_change_11 : decode cX5_change 11 = .ok (.aload_n 0, 1) := by decide +kernel
theorem dX5_change_12 : decode cX5_change 12 = .ok (.iload_n 1, 1) := by decide +kernel
theorem dX5_change_13 : decode cX5_change 13 = .ok (.invokevirtual 29, 3) := by decide +kernel
theorem dX5_change_16 : decode cX5_change 16 = .ok (.istore_n 3, 1) := by decide +kernel
theorem dX5_change_17 : decode cX5_change 17 = .ok (.iload_n 1, 1) := by decide +kernel
theorem dX5_change_18 : decode cX5_change 18 = .ok (.tableswitch 50 0 2 #[26, 34, 42], 26) := by decide +kernel
theorem dX5_change_44 : decode cX5_change 44 = .ok (.aload_n 0, 1) := by decide +kernel
theorem dX5_change_45 : decode cX5_change 45 = .ok (.iload_n 2, 1) := by decide +kernel
theorem dX5_change_46 : decode cX5_change 46 = .ok (.putfield 9, 3) := by decide +kernel
theorem dX5_change_49 : decode cX5_change 49 = .ok (.goto 24, 3) := by decide +kernel
theorem dX5_change_52 : decode cX5_change 52 = .ok (.aload_n 0, 1) := by decide +kernel
theorem dX5_change_53 : decode cX5_change 53 = .ok (.iload_n 2, 1) := by decide +kernel
theorem dX5_change_54 : decode cX5_change 54 = .ok (.putfield 15, 3) := by decide +kernel
theorem dX5_change_57 : decode cX5_change 57 = .ok (.goto 16, 3) := by decide +kernel
theorem dX5_change_60 : decode cX5_change 60 = .ok (.aload_n 0, 1) := by decide +kernel
theorem dX5_change_61 : decode cX5_change 61 = .ok (.iload_n 2, 1) := by decide +kernel
theorem dX5_change_62 : decode cX5_change 62 = .ok (.putfield 18, 3) := by decide +kernel
theorem dX5_change_65 : decode cX5_change 65 = .ok (.goto 8, 3) := by decide +kernel
theorem dX5_change_68 : decode cX5_change 68 = .ok (.aload_n 0, 1) := by decide +kernel
theorem dX5_change_69 : decode cX5_change 69 = .ok (.iload_n 2, 1) := by decide +kernel
theorem dX5_change_70 : decode cX5_change 70 = .ok (.putfield 21, 3) := by decide +kernel
theorem dX5_change_73 : decode cX5_change 73 = .ok (.iload_n 3, 1) := by decide +kernel
theorem dX5_change_74 : decode cX5_change 74 = .ok (.ireturn, 1) := by decide +kernel
set_option maxRecDepth 20000 in
theorem ggX5_isAllowed_X9_isWithin : GoodIn wsX5_isAllowed wsX9_isWithin := goodIn_r _ [3] (by decide +kernel) (by decide +kernel)
set_option maxRecDepth 20000 in
theorem gX5_isAllowed_X9_isWithin_n33 : GoodIn wsX5_isAllowed (wsX9_isWithin) := ggX5_isAllowed_X9_isWithin
theorem dX5_isAllowed_0 : decode cX5_isAllowed 0 = .ok (.iload_n 0, 1) := by decide +kernel
theorem dX5_isAllowed_1 : decode cX5_isAllowed 1 = .ok (.tableswitch 64 0 3 #[31, 40, 48, 56], 31) := by decide +kernel
theorem dX5_isAllowed_32 : decode cX5_isAllowed 32 = .ok (.iload_n 1, 1) := by decide +kernel
theorem dX5_isAllowed_33 : decode cX5_isAllowed 33 = .ok (.iconst 1, 1) := by decide +kernel
theorem dX5_isAllowed_34 : decode cX5_isAllowed 34 = .ok (.sipush 500, 3) := by decide +kernel
theorem dX5_isAllowed_37 : decode cX5_isAllowed 37 = .ok (.invokestatic 33, 3) := by decide +kernel
theorem dX5_isAllowed_40 : decode cX5_isAllowed 40 = .ok (.ireturn, 1) := by decide +kernel
theorem dX5_isAllowed_41 : decode cX5_isAllowed 41 = .ok (.iload_n 1, 1) := by decide +kernel
theorem dX5_isAllowed_42 : decode cX5_isAllowed 42 = .ok (.iconst 0, 1) := by decide +kernel
theorem dX5_isAllowed_43 : decode cX5_isAllowed 43 = .ok (.bipush 50, 2) := by decide +kernel
theorem dX5_isAllowed_45 : decode cX5_isAllowed 45 = .ok (.invokestatic 33, 3) := by decide +kernel
theorem dX5_isAllowed_48 : decode cX5_isAllowed 48 = .ok (.ireturn, 1) := by decide +kernel
theorem dX5_isAllowed_49 : decode cX5_isAllowed 49 = .ok (.iload_n 1, 1) := by decide +kernel
theorem dX5_isAllowed_50 : decode cX5_isAllowed 50 = .ok (.iconst 2, 1) := by decide +kernel
theorem dX5_isAllowed_51 : decode cX5_isAllowed 51 = .ok (.bipush 40, 2) := by decide +kernel
theorem dX5_isAllowed_53 : decode cX5_isAllowed 53 = .ok (.invokestatic 33, 3) := by decide +kernel
theorem dX5_isAllowed_56 : decode cX5_isAllowed 56 = .ok (.ireturn, 1) := by decide +kernel
theorem dX5_isAllowed_57 : decode cX5_isAllowed 57 = .ok (.iload_n 1, 1) := by decide +kernel
theorem dX5_isAllowed_58 : decode cX5_isAllowed 58 = .ok (.iconst 0, 1) := by decide +kernel
theorem dX5_isAllowed_59 : decode cX5_isAllowed 59 = .ok (.bipush 16, 2) := by decide +kernel
theorem dX5_isAllowed_61 : decode cX5_isAllowed 61 = .ok (.invokestatic 33, 3) := by decide +kernel
theorem dX5_isAllowed_64 : decode cX5_isAllowed 64 = .ok (.ireturn, 1) := by decide +kernel
theorem dX5_isAllowed_65 : decode cX5_isAllowed 65 = .ok (.iconst 0, 1) := by decide +kernel
theorem dX5_isAllowed_66 : decode cX5_isAllowed 66 = .ok (.ireturn, 1) := by decide +kernel
set_option maxRecDepth 20000 in
theorem ggX6_init_X4_init : GoodIn wsX6_init wsX4_init := goodIn_r _ [30, 31, 2, 3, 32, 33, 34, 77, 78, 79] (by decide +kernel) (by decide +kernel)
set_option maxRecDepth 20000 in
theorem gX6_init_X4_init : GoodIn wsX6_init (wsX4_init) := ggX6_init_X4_init
set_option maxRecDepth 20000 in
theorem ggX6_init_X5_init : GoodIn wsX6_init wsX5_init := goodIn_r _ [36, 37, 2, 3, 38, 39, 40, 41, 80, 81, 82, 83] (by decide +kernel) (by decide +kernel)
set_option maxRecDepth 20000 in
theorem gX6_init_X5_init_n32 : GoodIn wsX6_init (wsX5_init) := ggX6_init_X5_init
set_option maxRecDepth 20000 in
theorem ggX6_init_X1_init : GoodIn wsX6_init wsX1_init := goodIn_r _ [43, 44, 2, 3, 45, 46, 47, 48, 49, 50, 51, 84, 85, 86, 87, 88, 89, 90] (by decide +kernel) (by decide +kernel)
set_option maxRecDepth 20000 in
theorem gX6_init_X1_init_n39 : GoodIn wsX6_init (wsX1_init) := ggX6_init_X1_init
set_option maxRecDepth 20000 in
theorem ggX6_init_X0_init : GoodIn wsX6_init wsX0_init := goodIn_r _ [53, 54, 2, 3, 55, 56, 91, 92] (by decide +kernel) (by decide +kernel)
set_option maxRecDepth 20000 in
theorem gX6_init_X0_init_n46 : GoodIn wsX6_init (wsX0_init) := ggX6_init_X0_init
set_option maxRecDepth 20000 in
theorem ggX6_init_X7_init : GoodIn wsX6_init wsX7_init := goodIn_r _ [58, 59, 2, 3, 60, 61, 62, 63, 64, 65, 66, 67, 93, 94, 95, 96, 97, 98, 99, 100] (by decide +kernel) (by decide +kernel)
set_option maxRecDepth 20000 in
theorem gX6_init_X7_init_n56 : GoodIn wsX6_init (wsX7_init) := ggX6_init_X7_init
theorem dX6_init_0 : decode cX6_init 0 = .ok (.aload_n 0, 1) := by decide +kernel
theorem dX6_init_1 : decode cX6_init 1 = .ok (.invokespecial 3, 3) := by decide +kernel
theorem dX6_init_4 : decode cX6_init 4 = .ok (.aload_n 0, 1) := by decide +kernel
theorem dX6_init_5 : decode cX6_init 5 = .ok (.iconst 1, 1) := by decide +kernel
theorem dX6_init_6 : decode cX6_init 6 = .ok (.putfield 9, 3) := by decide +kernel
theorem dX6_init_9 : decode cX6_init 9 = .ok (.aload_n 0, 1) := by decide +kernel
theorem dX6_init_10 : decode cX6_init 10 = .ok (.iconst (-1), 1) := by decide +kernel
theorem dX6_init_11 : decode cX6_init 11 = .ok (.putfield 15, 3) := by decide +kernel
theorem dX6_init_14 : decode cX6_init 14 = .ok (.aload_n 0, 1) := by decide +kernel
theorem dX6_init_15 : decode cX6_init 15 = .ok (.new 18, 3) := by decide +kernel
theorem dX6_init_18 : decode cX6_init 18 = .ok (.dup, 1) := by decide +kernel
theorem dX6_init_19 : decode cX6_init 19 = .ok (.bipush 100, 2) := by decide +kernel
theorem dX6_init_21 : decode cX6_init 21 = .ok (.invokespecial 20, 3) := by decide +kernel
theorem dX6_init_24 : decode cX6_init 24 = .ok (.putfield 23, 3) := by decide +kernel
theorem dX6_init_27 : decode cX6_init 27 = .ok (.aload_n 0, 1) := by decide +kernel
theorem dX6_init_28 : decode cX6_init 28 = .ok (.new 18, 3) := by decide +kernel
theorem dX6_init_31 : decode cX6_init 31 = .ok (.dup, 1) := by decide +kernel
theorem dX6_init_32 : decode cX6_init 32 = .ok (.sipush 137, 3) := by decide +kernel
theorem dX6_init_35 : decode cX6_init 35 = .ok (.invokespecial 20, 3) := by decide +kernel
theorem dX6_init_38 : decode cX6_init 38 = .ok (.putfield 27, 3) := by decide +kernel
theorem dX6_init_41 : decode cX6_init 41 = .ok (.aload_n 0, 1) := by decide +kernel
theorem dX6_init_42 : decode cX6_init 42 = .ok (.new 30, 3) := by decide +kernel
theorem dX6_init_45 : decode cX6_init 45 = .ok (.dup, 1) := by decide +kernel
theorem dX6_init_46 : decode cX6_init 46 = .ok (.invokespecial 32, 3) := by decide +kernel
theorem dX6_init_49 : decode cX6_init 49 = .ok (.putfield 33, 3) := by decide +kernel
theorem dX6_init_52 : decode cX6_init 52 = .ok (.aload_n 0, 1) := by decide +kernel
theorem dX6_init_53 : decode cX6_init 53 = .ok (.new 37, 3) := by decide +kernel
theorem dX6_init_56 : decode cX6_init 56 = .ok (.dup, 1) := by decide +kernel
theorem dX6_init_57 : decode cX6_init 57 = .ok (.invokespecial 39, 3) := by decide +kernel
theorem dX6_init_60 : decode cX6_init 60 = .ok (.putfield 40, 3) := by decide +kernel
theorem dX6_init_63 : decode cX6_init 63 = .ok (.aload_n 0, 1) := by decide +kernel
theorem dX6_init_64 : decode cX6_init 64 = .ok (.new 44, 3) := by decide +kernel
theorem dX6_init_67 : decode cX6_init 67 = .ok (.dup, 1) := by decide +kernel
theorem dX6_init_68 : decode cX6_init 68 = .ok (.invokespecial 46, 3) := by decide +kernel
theorem dX6_init_71 : decode cX6_init 71 = .ok (.putfield 47, 3) := by decide +kernel
theorem dX6_init_74 : decode cX6_init 74 = .ok (.aload_n 0, 1) := by decide +kernel
theorem dX6_init_75 : decode cX6_init 75 = .ok (.new 44, 3) := by decide +kernel
theorem dX6_init_78 : decode cX6_init 78 = .ok (.dup, 1) := by decide +kernel
theorem dX6_init_79 : decode cX6_init 79 = .ok (.invokespecial 46, 3) := by decide +kernel
theorem dX6_init_82 : decode cX6_init 82 = .ok (.putfield 51, 3) := by decide +kernel
theorem dX6_init_85 : decode cX6_init 85 = .ok (.aload_n 0, 1) := by decide +kernel
theorem dX6_init_86 : decode cX6_init 86 = .ok (.new 54, 3) := by decide +kernel
theorem dX6_init_89 : decode cX6_init 89 = .ok (.dup, 1) := by decide +kernel
theorem dX6_init_90 : decode cX6_init 90 = .ok (.invokespecial 56, 3) := by decide +kernel
theorem dX6_init_93 : decode cX6_init 93 = .ok (.putfield 57, 3) := by decide +kernel
theorem dX6_init_96 : decode cX6_init 96 = .ok (.return_, 1) := by decide +kernel
set_option maxRecDepth 20000 in
theorem ggX6_copyFrom_X4_copyFrom : GoodIn wsX6_copyFrom wsX4_copyFrom := goodIn_r _ [14, 15, 16, 17, 68, 69, 70] (by decide +kernel) (by decide +kernel)
set_option maxRecDepth 20000 in
theorem gX6_copyFrom_X4_copyFrom : GoodIn wsX6_copyFrom (wsV RX6 61 RX4 yX4_copyFrom wsX4_copyFrom) := goodIn_app (goodIn_of _ (by decide +kernel)) ggX6_copyFrom_X4_copyFrom
set_option maxRecDepth 20000 in
theorem ggX6_copyFrom_X5_copyFrom : GoodIn wsX6_copyFrom wsX5_copyFrom := goodIn_r _ [22, 23, 24, 25, 26, 71, 72, 73, 74] (by decide +kernel) (by decide +kernel)
set_option maxRecDepth 20000 in
theorem gX6_copyFrom_X5_copyFrom : GoodIn wsX6_copyFrom (wsV RX6 65 RX5 yX5_copyFrom wsX5_copyFrom) := goodIn_app (goodIn_of _ (by decide +kernel)) ggX6_copyFrom_X5_copyFrom
set_option maxRecDepth 20000 in
theorem ggX6_copyFrom_X1_copyFrom : GoodIn wsX6_copyFrom wsX1_copyFrom := goodIn_r _ [31, 32, 33, 34, 35, 36, 37, 38, 75, 76, 77, 78, 79, 80, 81] (by decide +kernel) (by decide +kernel)
set_option maxRecDepth 20000 in
theorem gX6_copyFrom_X1_copyFrom : GoodIn wsX6_copyFrom (wsV RX6 68 RX1 yX1_copyFrom wsX1_copyFrom) := goodIn_app (goodIn_of _ (by decide +kernel)) ggX6_copyFrom_X1_copyFrom
set_option maxRecDepth 20000 in
theorem ggX6_copyFrom_X0_copyFrom : GoodIn wsX6_copyFrom wsX0_copyFrom := goodIn_r _ [43, 44, 45, 82, 83] (by decide +kernel) (by decide +kernel)
set_option maxRecDepth 20000 in
theorem gX6_copyFrom_X0_copyFrom : GoodIn wsX6_copyFrom (wsV RX6 71 RX0 yX0_copyFrom wsX0_copyFrom) := goodIn_app (goodIn_of _ (by decide +kernel)) ggX6_copyFrom_X0_copyFrom
set_option maxRecDepth 20000 in
theorem ggX6_copyFrom_X7_copyFrom : GoodIn wsX6_copyFrom wsX7_copyFrom := goodIn_r _ [50, 51, 52, 53, 54, 55, 56, 57, 58, 84, 85, 86, 87, 88, 89, 90, 91] (by decide +kernel) (by decide +kernel)
set_option maxRecDepth 20000 in
theorem gX6_copyFrom_X7_copyFrom : GoodIn wsX6_copyFrom (wsV RX6 74 RX7 yX7_copyFrom wsX7_copyFrom) := goodIn_app (goodIn_of _ (by decide +kernel)) ggX6_copyFrom_X7_copyFrom
theorem dX6_copyFrom_0 : decode cX6_copyFrom 0 = .ok (.aload_n 0, 1) := by decide +kernel
theorem dX6_copyFrom_1 : decode cX6_copyFrom 1 = .ok (.getfield 23, 3) := by decide +kernel
theorem dX6_copyFrom_4 : decode cX6_copyFrom 4 = .ok (.aload_n 1, 1) := by decide +kernel
theorem dX6_copyFrom_5 : decode cX6_copyFrom 5 = .ok (.getfield 23, 3) := by decide +kernel
theorem dX6_copyFrom_8 : decode cX6_copyFrom 8 = .ok (.invokevirtual 61, 3) := by decide +kernel
theorem dX6_copyFrom_11 : decode cX6_copyFrom 11 = .ok (.aload_n 0, 1) := by decide +kernel
theorem dX6_copyFrom_12 : decode cX6_copyFrom 12 = .ok (.getfield 27, 3) := by decide +kernel
theorem dX6_copyFrom_15 : decode cX6_copyFrom 15 = .ok (.aload_n 1, 1) := by decide +kernel
theorem dX6_copyFrom_16 : decode cX6_copyFrom 16 = .ok (.getfield 27, 3) := by decide +kernel
theorem dX6_copyFrom_19 : decode cX6_copyFrom 19 = .ok (.invokevirtual 61, 3) := by decide +kernel
theorem dX6_copyFrom_22 : decode cX6_copyFrom 22 = .ok (.aload_n 0, 1) := by decide +kernel
theorem dX6_copyFrom_23 : decode cX6_copyFrom 23 = .ok (.getfield 33, 3) := by decide +kernel
theorem dX6_copyFrom_26 : decode cX6_copyFrom 26 = .ok (.aload_n 1, 1) := by decide +kernel
theorem dX6_copyFrom_27 : decode cX6_copyFrom 27 = .ok (.getfield 33, 3) := by decide +kernel
theorem dX6_copyFrom_30 : decode cX6_copyFrom 30 = .ok (.invokevirtual 65, 3) := by decide +kernel
theorem dX6_copyFrom_33 : decode cX6_copyFrom 33 = .ok (.aload_n 0, 1) := by decide +kernel
theorem dX6_copyFrom_34 : decode cX6_copyFrom 34 = .ok (.getfield 40, 3) := by decide +kernel
theorem dX6_copyFrom_37 : decode cX6_copyFrom 37 = .ok (.aload_n 1, 1) := by decide +kernel
theorem dX6_copyFrom_38 : decode cX6_copyFrom 38 = .ok (.getfield 40, 3) := by decide +kernel
theorem dX6_copyFrom_41 : decode cX6_copyFrom 41 = .ok (.invokevirtual 68, 3) := by decide +kernel
theorem dX6_copyFrom_44 : decode cX6_copyFrom 44 = .ok (.aload_n 0, 1) := by decide +kernel
theorem dX6_copyFrom_45 : decode cX6_copyFrom 45 = .ok (.getfield 47, 3) := by decide +kernel
theorem dX6_copyFrom_48 : decode cX6_copyFrom 48 = .ok (.aload_n 1, 1) := by decide +kernel
theorem dX6_copyFrom_49 : decode cX6_copyFrom 49 = .ok (.getfield 47, 3) := by decide +kernel
theorem dX6_copyFrom_52 : decode cX6_copyFrom 52 = .ok (.invokevirtual 71, 3) := by decide +kernel
theorem dX6_copyFrom_55 : decode cX6_copyFrom 55 = .ok (.aload_n 0, 1) := by decide +kernel
theorem dX6_copyFrom_56 : decode cX6_copyFrom 56 = .ok (.getfield 51, 3) := by decide +kernel
theorem dX6_copyFrom_59 : decode cX6_copyFrom 59 = .ok (.aload_n 1, 1) := by decide +kernel
theorem dX6_copyFrom_60 : decode cX6_copyFrom 60 = .ok (.getfield 51, 3) := by decide +kernel
theorem dX6_copyFrom_63 : decode cX6_copyFrom 63 = .ok (.invokevirtual 71, 3) := by decide +kernel
theorem dX6_copyFrom_66 : decode cX6_copyFrom 66 = .ok (.aload_n 0, 1) := by decide +kernel
theorem dX6_copyFrom_67 : decode cX6_copyFrom 67 = .ok (.getfield 57, 3) := by decide +kernel
theorem dX6_copyFrom_70 : decode cX6_copyFrom 70 = .ok (.aload_n 1, 1) := by decide +kernel
theorem dX6_copyFrom_71 : decode cX6_copyFrom 71 = .ok (.getfield 57, 3) := by decide +kernel
theorem dX6_copyFrom_74 : decode cX6_copyFrom 74 = .ok (.invokevirtual 74, 3) := by decide +kernel
theorem dX6_copyFrom_77 : decode cX6_copyFrom 77 = .ok (.aload_n 0, 1) := by decide +kernel
theorem dX6_copyFrom_78 : decode cX6_copyFrom 78 = .ok (.aload_n 1, 1) := by decide +kernel
theorem dX6_copyFrom_79 : decode cX6_copyFrom 79 = .ok (.getfield 9, 3) := by decide +kernel
theorem dX6_copyFrom_82 : decode cX6_copyFrom 82 = .ok (.putfield 9, 3) := by decide +kernel
theorem dX6_copyFrom_85 : decode cX6_copyFrom 85 = .ok (.aload_n 0, 1) := by decide +kernel
theorem dX6_copyFrom_86 : decode cX6_copyFrom 86 = .ok (.aload_n 1, 1) := by decide +kernel
theorem dX6_copyFrom_87 : decode cX6_copyFrom 87 = .ok (.getfield 15, 3) := by decide +kernel
theorem dX6_copyFrom_90 : decode cX6_copyFrom 90 = .ok (.putfield 15, 3) := by decide +kernel
theorem dX6_copyFrom_93 : decode cX6_copyFrom 93 = .ok (.return_, 1) := by decide +kernel
theorem dX6_ringAt_0 : decode cX6_ringAt 0 = .ok (.iload_n 1, 1) := by decide +kernel
theorem dX6_ringAt_1 : decode cX6_ringAt 1 = .ok (.ifCond .ne 10, 3) := by decide +kernel
theorem dX6_ringAt_4 : decode cX6_ringAt 4 = .ok (.aload_n 0, 1) := by decide +kernel
theorem dX6_ringAt_5 : decode cX6_ringAt 5 = .ok (.getfield 23, 3) := by decide +kernel
theorem dX6_ringAt_8 : decode cX6_ringAt 8 = .ok (.goto 7, 3) := by decide +kernel
theorem dX6_ringAt_11 : decode cX6_ringAt 11 = .ok (.aload_n 0, 1) := by decide +kernel
theorem dX6_ringAt_12 : decode cX6_ringAt 12 = .ok (.getfield 27, 3) := by decide +kernel
theorem dX6_ringAt_15 : decode cX6_ringAt 15 = .ok (.areturn, 1) := by decide +kernel
set_option maxRecDepth 20000 in
theorem ggX6_changeRing_X9_isWithin : GoodIn wsX6_changeRing wsX9_isWithin := goodIn_r _ [7] (by decide +kernel) (by decide +kernel)
set_option maxRecDepth 20000 in
theorem gX6_changeRing_X9_isWithin_n77 : GoodIn wsX6_changeRing (wsX9_isWithin) := ggX6_changeRing_X9_isWithin
set_option maxRecDepth 20000 in
theorem ggX6_changeRing_X6_ringAt : GoodIn wsX6_changeRing wsX6_ringAt := goodIn_r _ [12, 13, 14, 18, 19, 20, 21, 22, 23, 24, 25, 26] (by decide +kernel) (by decide +kernel)
set_option maxRecDepth 20000 in
theorem gX6_changeRing_X6_ringAt : GoodIn wsX6_changeRing (wsV RX6 82 RX6 yX6_ringAt wsX6_ringAt) := goodIn_app (goodIn_of _ (by decide +kernel)) ggX6_changeRing_X6_ringAt
theorem dX6_changeRing_0 : decode cX6_changeRing 0 = .ok (.iload_n 1, 1) := by decide +kernel
theorem dX6_changeRing_1 : decode cX6_changeRing 1 = .ok (.iconst 0, 1) := by decide +kernel
theorem dX6_changeRing_2 : decode cX6_changeRing 2 = .ok (.iconst 1, 1) := by decide +kernel
theorem dX6_changeRing_3 : decode cX6_changeRing 3 = .ok (.invokestatic 77, 3) := by decide +kernel
theorem dX6_changeRing_6 : decode cX6_changeRing 6 = .ok (.ifCond .eq 25, 3) := by decide +kernel
theorem dX6_changeRing_9 : decode cX6_changeRing 9 = .ok (.iload_n 2, 1) := by decide +kernel
theorem dX6_changeRing_10 : decode cX6_changeRing 10 = .ok (.bipush 10, 2) := by decide +kernel
theorem dX6_changeRing_12 : decode cX6_changeRing 12 = .ok (.sipush 999, 3) := by decide +kernel
theorem dX6_changeRing_15 : decode cX6_changeRing 15 = .ok (.invokestatic 77, 3) := by decide +kernel
theorem dX6_changeRing_18 : decode cX6_changeRing 18 = .ok (.ifCond .eq 13, 3) := by decide +kernel
theorem dX6_changeRing_21 : decode cX6_changeRing 21 = .ok (.iload_n 3, 1) := by decide +kernel
theorem dX6_changeRing_22 : decode cX6_changeRing 22 = .ok (.iconst 0, 1) := by decide +kernel
theorem dX6_changeRing_23 : decode cX6_changeRing 23 = .ok (.bipush 99, 2) := by decide +kernel
theorem dX6_changeRing_25 : decode cX6_changeRing 25 = .ok (.invokestatic 77, 3) := by decide +kernel
theorem dX6_changeRing_28 : decode cX6_changeRing 28 = .ok (.ifCond .ne 6, 3) := by decide +kernel
theorem dX6_changeRing_31 : decode cX6_changeRing 31 = .ok (.ldc 81, 2) := by decide +kernel
theorem dX6_changeRing_33 : decode cX6_changeRing 33 = .ok (.ireturn, 1) := by decide +kernel
theorem dX6_changeRing_34 : decode cX6_changeRing 34 = .ok (.aload_n 0, 1) := by decide +kernel
theorem dX6_changeRing_35 : decode cX6_changeRing 35 = .ok (.iload_n 1, 1) := by decide +kernel
theorem dX6_changeRing_36 : decode cX6_changeRing 36 = .ok (.invokevirtual 82, 3) := by decide +kernel
theorem dX6_changeRing_39 : decode cX6_changeRing 39 = .ok (.astore 4, 2) := by decide +kernel
theorem dX6_changeRing_41 : decode cX6_changeRing 41 = .ok (.aload 4, 2) := by decide +kernel
theorem dX6_changeRing_43 : decode cX6_changeRing 43 = .ok (.getfield 86, 3) := by decide +kernel
theorem dX6_changeRing_46 : decode cX6_changeRing 46 = .ok (.istore 5, 2) := by decide +kernel
theorem dX6_changeRing_48 : decode cX6_changeRing 48 = .ok (.aload 4, 2) := by decide +kernel
theorem dX6_changeRing_50 : decode cX6_changeRing 50 = .ok (.iload_n 2, 1) := by decide +kernel
theorem dX6_changeRing_51 : decode cX6_changeRing 51 = .ok (.putfield 86, 3) := by decide +kernel
theorem dX6_changeRing_54 : decode cX6_changeRing 54 = .ok (.aload 4, 2) := by decide +kernel
theorem dX6_changeRing_56 : decode cX6_changeRing 56 = .ok (.iload_n 3, 1) := by decide +kernel
theorem dX6_changeRing_57 : decode cX6_changeRing 57 = .ok (.putfield 89, 3) := by decide +kernel
theorem dX6_changeRing_60 : decode cX6_changeRing 60 = .ok (.aload 4, 2) := by decide +kernel
theorem dX6_changeRing_62 : decode cX6_changeRing 62 = .ok (.iconst 0, 1) := by decide +kernel
theorem dX6_changeRing_63 : decode cX6_changeRing 63 = .ok (.putfield 92, 3) := by decide +kernel
theorem dX6_changeRing_66 : decode cX6_changeRing 66 = .ok (.iload 5, 2) := by decide +kernel
theorem dX6_changeRing_68 : decode cX6_changeRing 68 = .ok (.ireturn, 1) := by decide +kernel
set_option maxRecDepth 20000 in
theorem ggX6_changeNoise_X9_isWithin : GoodIn wsX6_changeNoise wsX9_isWithin := goodIn_r _ [6] (by decide +kernel) (by decide +kernel)
set_option maxRecDepth 20000 in
theorem gX6_changeNoise_X9_isWithin_n77 : GoodIn wsX6_changeNoise (wsX9_isWithin) := ggX6_changeNoise_X9_isWithin
theorem dX6_changeNoise_0 : decode cX6_changeNoise 0 = .ok (.iload_n 1, 1) := by decide +kernel
theorem dX6_changeNoise_1 : decode cX6_changeNoise 1 = .ok (.iconst 1, 1) := by decide +kernel
theorem dX6_changeNoise_2 : decode cX6_changeNoise 2 = .ok (.ldc 95, 2) := by decide +kernel
theorem dX6_changeNoise_4 : decode cX6_changeNoise 4 = .ok (.invokestatic 77, 3) := by decide +kernel
theorem dX6_changeNoise_7 : decode cX6_changeNoise 7 = .ok (.ifCond .ne 6, 3) := by decide +kernel
theorem dX6_changeNoise_10 : decode cX6_changeNoise 10 = .ok (.ldc 81, 2) := by decide +kernel
theorem dX6_changeNoise_12 : decode cX6_changeNoise 12 = .ok (.ireturn, 1) := by decide +kernel
theorem dX6_changeNoise_13 : decode cX6_changeNoise 13 = .ok (.aload_n 0, 1) := by decide +kernel
theorem dX6_changeNoise_14 : decode cX6_changeNoise 14 = .ok (.getfield 9, 3) := by decide +kernel
theorem dX6_changeNoise_17 : decode cX6_changeNoise 17 = .ok (.istore_n 2, 1) := by decide +kernel
theorem dX6_changeNoise_18 : decode cX6_changeNoise 18 = .ok (.aload_n 0, 1) := by decide +kernel
theorem dX6_changeNoise_19 : decode cX6_changeNoise 19 = .ok (.iload_n 1, 1) := by decide +kernel
theorem dX6_changeNoise_20 : decode cX6_changeNoise 20 = .ok (.putfield 9, 3) := by decide +kernel
theorem dX6_changeNoise_23 : decode cX6_changeNoise 23 = .ok (.iload_n 2, 1) := by decide +kernel
theorem dX6_changeNoise_24 : decode cX6_changeNoise 24 = .ok (.ireturn, 1) := by decide +kernel
set_option maxRecDepth 20000 in
theorem ggX6_makeSamples_X9_isWithin : GoodIn wsX6_makeSamples wsX9_isWithin := goodIn_r _ [6] (by decide +kernel) (by decide +kernel)
set_option maxRecDepth 20000 in
theorem gX6_makeSamples_X9_isWithin_n77 : GoodIn wsX6_makeSamples (wsX9_isWithin) := ggX6_makeSamples_X9_isWithin
set_option maxRecDepth 20000 in
theorem ggX6_makeSamples_X6_nextRawBit : GoodIn wsX6_makeSamples wsX6_nextRawBit := goodIn_r _ [11, 12, 13, 14, 15, 16, 17, 18, 10, 19, 20, 21, 22, 23, 24, 25, 26, 27, 28, 29, 30, 5, 31, 32, 33, 34, 35, 36, 37, 38, 39, 40, 41, 42, 43, 44, 45, 46, 47, 48, 49, 114, 115, 116, 117, 118, 119, 120, 121, 122, 131, 132, 133, 134, 135, 136, 137] (by decide +kernel) (by decide +kernel)
set_option maxRecDepth 20000 in
theorem gX6_makeSamples_X6_nextRawBit : GoodIn wsX6_makeSamples (wsV RX6 99 RX6 yX6_nextRawBit wsX6_nextRawBit) := goodIn_app (goodIn_of _ (by decide +kernel)) ggX6_makeSamples_X6_nextRawBit
set_option maxRecDepth 20000 in
theorem ggX6_makeSamples_X6_takeRawBit : GoodIn wsX6_makeSamples wsX6_takeRawBit := goodIn_r _ [53, 54, 2, 55, 56, 57, 58, 13, 59, 60, 61, 62, 39, 63, 64, 65, 66, 67, 68, 69, 70, 71, 72, 73, 74, 75, 76, 77, 78, 79, 80, 81, 82, 83, 84, 85, 86, 87, 88, 89, 90, 91, 92, 93, 94, 95, 96, 97, 98, 99, 100, 101, 102, 103, 104, 105, 10, 106, 107, 108, 109, 3, 110, 111, 112, 113, 114, 115, 116, 117, 118, 119, 120, 121, 122, 123, 124, 125, 126, 127, 128, 129, 130, 138, 139, 140, 141, 142, 143, 144, 145, 146, 131, 132, 133, 134] (by decide +kernel) (by decide +kernel)
set_option maxRecDepth 20000 in
theorem gX6_makeSamples_X6_takeRawBit : GoodIn wsX6_makeSamples (wsV RX6 103 RX6 yX6_takeRawBit wsX6_takeRawBit) := goodIn_app (goodIn_of _ (by decide +kernel)) ggX6_makeSamples_X6_takeRawBit
theorem dX6_makeSamples_0 : decode cX6_makeSamples 0 = .ok (.iload_n 1, 1) := by decide +kernel
theorem dX6_makeSamples_1 : decode cX6_makeSamples 1 = .ok (.iconst 1, 1) := by decide +kernel
theorem dX6_makeSamples_2 : decode cX6_makeSamples 2 = .ok (.sipush 300, 3) := by decide +kernel
theorem dX6_makeSamples_5 : decode cX6_makeSamples 5 = .ok (.invokestatic 77, 3) := by decide +kernel
theorem dX6_makeSamples_8 : decode cX6_makeSamples 8 = .ok (.ifCond .ne 6, 3) := by decide +kernel
theorem dX6_makeSamples_11 : decode cX6_makeSamples 11 = .ok (.ldc 81, 2) := by decide +kernel
theorem dX6_makeSamples_13 : decode cX6_makeSamples 13 = .ok (.ireturn, 1) := by decide +kernel
theorem dX6_makeSamples_14 : decode cX6_makeSamples 14 = .ok (.aload_n 0, 1) := by decide +kernel
theorem dX6_makeSamples_15 : decode cX6_makeSamples 15 = .ok (.getfield 57, 3) := by decide +kernel
theorem dX6_makeSamples_18 : decode cX6_makeSamples 18 = .ok (.getfield 96, 3) := by decide +kernel
theorem dX6_makeSamples_21 : decode cX6_makeSamples 21 = .ok (.istore_n 2, 1) := by decide +kernel
theorem dX6_makeSamples_22 : decode cX6_makeSamples 22 = .ok (.iconst 0, 1) := by decide +kernel
theorem dX6_makeSamples_23 : decode cX6_makeSamples 23 = .ok (.istore_n 3, 1) := by decide +kernel
theorem dX6_makeSamples_24 : decode cX6_makeSamples 24 = .ok (.iload_n 3, 1) := by decide +kernel
theorem dX6_makeSamples_25 : decode cX6_makeSamples 25 = .ok (.iload_n 1, 1) := by decide +kernel
theorem dX6_makeSamples_26 : decode cX6_makeSamples 26 = .ok (.if_icmp .ge 17, 3) := by decide +kernel
theorem dX6_makeSamples_29 : decode cX6_makeSamples 29 = .ok (.aload_n 0, 1) := by decide +kernel
theorem dX6_makeSamples_30 : decode cX6_makeSamples 30 = .ok (.aload_n 0, 1) := by decide +kernel
theorem dX6_makeSamples_31 : decode cX6_makeSamples 31 = .ok (.invokevirtual 99, 3) := by decide +kernel
theorem dX6_makeSamples_34 : decode cX6_makeSamples 34 = .ok (.invokevirtual 103, 3) := by decide +kernel
theorem dX6_makeSamples_37 : decode cX6_makeSamples 37 = .ok (.iinc 3 1, 3) := by decide +kernel
theorem dX6_makeSamples_40 : decode cX6_makeSamples 40 = .ok (.goto (-16), 3) := by decide +kernel
theorem dX6_makeSamples_43 : decode cX6_makeSamples 43 = .ok (.aload_n 0, 1) := by decide +kernel
theorem dX6_makeSamples_44 : decode cX6_makeSamples 44 = .ok (.getfield 57, 3) := by decide +kernel
theorem dX6_makeSamples_47 : decode cX6_makeSamples 47 = .ok (.getfield 96, 3) := by decide +kernel
theorem dX6_makeSamples_50 : decode cX6_makeSamples 50 = .ok (.iload_n 2, 1) := by decide +kernel
theorem dX6_makeSamples_51 : decode cX6_makeSamples 51 = .ok (.isub, 1) := by decide +kernel
theorem dX6_makeSamples_52 : decode cX6_makeSamples 52 = .ok (.ireturn, 1) := by decide +kernel
set_option maxRecDepth 20000 in
theorem ggX6_drawBits_X9_isWithin : GoodIn wsX6_drawBits wsX9_isWithin := goodIn_r _ [11] (by decide +kernel) (by decide +kernel)
set_option maxRecDepth 20000 in
theorem gX6_drawBits_X9_isWithin_n77 : GoodIn wsX6_drawBits (wsX9_isWithin) := ggX6_drawBits_X9_isWithin
set_option maxRecDepth 20000 in
theorem ggX6_drawBits_X0_takeEarliest : GoodIn wsX6_drawBits wsX0_takeEarliest := goodIn_r _ [16, 17, 18, 28, 29] (by decide +kernel) (by decide +kernel)
set_option maxRecDepth 20000 in
theorem gX6_drawBits_X0_takeEarliest : GoodIn wsX6_drawBits (wsV RX6 116 RX0 yX0_takeEarliest wsX0_takeEarliest) := goodIn_app (goodIn_of _ (by decide +kernel)) ggX6_drawBits_X0_takeEarliest
theorem dX6_drawBits_0 : decode cX6_drawBits 0 = .ok (.iload_n 1, 1) := by decide +kernel
theorem dX6_drawBits_1 : decode cX6_drawBits 1 = .ok (.iconst 1, 1) := by decide +kernel
theorem dX6_drawBits_2 : decode cX6_drawBits 2 = .ok (.bipush 24, 2) := by decide +kernel
theorem dX6_drawBits_4 : decode cX6_drawBits 4 = .ok (.invokestatic 77, 3) := by decide +kernel
theorem dX6_drawBits_7 : decode cX6_drawBits 7 = .ok (.ifCond .ne 6, 3) := by decide +kernel
theorem dX6_drawBits_10 : decode cX6_drawBits 10 = .ok (.ldc 81, 2) := by decide +kernel
theorem dX6_drawBits_12 : decode cX6_drawBits 12 = .ok (.ireturn, 1) := by decide +kernel
theorem dX6_drawBits_13 : decode cX6_drawBits 13 = .ok (.aload_n 0, 1) := by decide +kernel
theorem dX6_drawBits_14 : decode cX6_drawBits 14 = .ok (.getfield 51, 3) := by decide +kernel
theorem dX6_drawBits_17 : decode cX6_drawBits 17 = .ok (.getfield 106, 3) := by decide +kernel
theorem dX6_drawBits_20 : decode cX6_drawBits 20 = .ok (.iload_n 1, 1) := by decide +kernel
theorem dX6_drawBits_21 : decode cX6_drawBits 21 = .ok (.if_icmp .lt 14, 3) := by decide +kernel
theorem dX6_drawBits_24 : decode cX6_drawBits 24 = .ok (.aload_n 0, 1) := by decide +kernel
theorem dX6_drawBits_25 : decode cX6_drawBits 25 = .ok (.getfield 40, 3) := by decide +kernel
theorem dX6_drawBits_28 : decode cX6_drawBits 28 = .ok (.getfield 109, 3) := by decide +kernel
theorem dX6_drawBits_31 : decode cX6_drawBits 31 = .ok (.iconst 2, 1) := by decide +kernel
theorem dX6_drawBits_32 : decode cX6_drawBits 32 = .ok (.if_icmp .ne 6, 3) := by decide +kernel
theorem dX6_drawBits_35 : decode cX6_drawBits 35 = .ok (.ldc 112, 2) := by decide +kernel
theorem dX6_drawBits_37 : decode cX6_drawBits 37 = .ok (.ireturn, 1) := by decide +kernel
theorem dX6_drawBits_38 : decode cX6_drawBits 38 = .ok (.aload_n 0, 1) := by decide +kernel
theorem dX6_drawBits_39 : decode cX6_drawBits 39 = .ok (.getfield 57, 3) := by decide +kernel
theorem dX6_drawBits_42 : decode cX6_drawBits 42 = .ok (.dup, 1) := by decide +kernel
theorem dX6_drawBits_43 : decode cX6_drawBits 43 = .ok (.getfield 113, 3) := by decide +kernel
theorem dX6_drawBits_46 : decode cX6_drawBits 46 = .ok (.iload_n 1, 1) := by decide +kernel
theorem dX6_drawBits_47 : decode cX6_drawBits 47 = .ok (.iadd, 1) := by decide +kernel
theorem dX6_drawBits_48 : decode cX6_drawBits 48 = .ok (.putfield 113, 3) := by decide +kernel
theorem dX6_drawBits_51 : decode cX6_drawBits 51 = .ok (.aload_n 0, 1) := by decide +kernel
theorem dX6_drawBits_52 : decode cX6_drawBits 52 = .ok (.getfield 51, 3) := by decide +kernel
theorem dX6_drawBits_55 : decode cX6_drawBits 55 = .ok (.iload_n 1, 1) := by decide +kernel
theorem dX6_drawBits_56 : decode cX6_drawBits 56 = .ok (.invokevirtual 116, 3) := by decide +kernel
theorem dX6_drawBits_59 : decode cX6_drawBits 59 = .ok (.ireturn, 1) := by decide +kernel
set_option maxRecDepth 20000 in
theorem ggX6_startAnew_X0_clear : GoodIn wsX6_startAnew wsX0_clear := goodIn_r _ [9, 10, 11, 33, 34] (by decide +kernel) (by decide +kernel)
set_option maxRecDepth 20000 in
theorem gX6_startAnew_X0_clear : GoodIn wsX6_startAnew (wsV RX6 120 RX0 yX0_clear wsX0_clear) := goodIn_app (goodIn_of _ (by decide +kernel)) ggX6_startAnew_X0_clear
set_option maxRecDepth 20000 in
theorem ggX6_startAnew_X1_startAnew : GoodIn wsX6_startAnew wsX1_startAnew := goodIn_r _ [16, 17, 18, 19, 20, 21, 22, 23, 35, 36, 37, 38, 39, 40, 41] (by decide +kernel) (by decide +kernel)
set_option maxRecDepth 20000 in
theorem gX6_startAnew_X1_startAnew : GoodIn wsX6_startAnew (wsV RX6 123 RX1 yX1_startAnew wsX1_startAnew) := goodIn_app (goodIn_of _ (by decide +kernel)) ggX6_startAnew_X1_startAnew
theorem dX6_startAnew_0 : decode cX6_startAnew 0 = .ok (.aload_n 0, 1) := by decide +kernel
theorem dX6_startAnew_1 : decode cX6_startAnew 1 = .ok (.getfield 51, 3) := by decide +kernel
theorem dX6_startAnew_4 : decode cX6_startAnew 4 = .ok (.getfield 106, 3) := by decide +kernel
theorem dX6_startAnew_7 : decode cX6_startAnew 7 = .ok (.istore_n 1, 1) := by decide +kernel
theorem dX6_startAnew_8 : decode cX6_startAnew 8 = .ok (.aload_n 0, 1) := by decide +kernel
theorem dX6_startAnew_9 : decode cX6_startAnew 9 = .ok (.getfield 51, 3) := by decide +kernel
theorem dX6_startAnew_12 : decode cX6_startAnew 12 = .ok (.invokevirtual 120, 3) := by decide +kernel
theorem dX6_startAnew_15 : decode cX6_startAnew 15 = .ok (.aload_n 0, 1) := by decide +kernel
theorem dX6_startAnew_16 : decode cX6_startAnew 16 = .ok (.getfield 40, 3) := by decide +kernel
theorem dX6_startAnew_19 : decode cX6_startAnew 19 = .ok (.invokevirtual 123, 3) := by decide +kernel
theorem dX6_startAnew_22 : decode cX6_startAnew 22 = .ok (.aload_n 0, 1) := by decide +kernel
theorem dX6_startAnew_23 : decode cX6_startAnew 23 = .ok (.iconst (-1), 1) := by decide +kernel
theorem dX6_startAnew_24 : decode cX6_startAnew 24 = .ok (.putfield 15, 3) := by decide +kernel
theorem dX6_startAnew_27 : decode cX6_startAnew 27 = .ok (.iload_n 1, 1) := by decide +kernel
theorem dX6_startAnew_28 : decode cX6_startAnew 28 = .ok (.ireturn, 1) := by decide +kernel
set_option maxRecDepth 20000 in
theorem ggX6_nextRawBit_X6_nextNoise : GoodIn wsX6_nextRawBit wsX6_nextNoise := goodIn_r _ [9, 10, 11, 41, 42, 43, 44, 45, 46, 47, 48, 49] (by decide +kernel) (by decide +kernel)
set_option maxRecDepth 20000 in
theorem gX6_nextRawBit_X6_nextNoise : GoodIn wsX6_nextRawBit (wsV RX6 129 RX6 yX6_nextNoise wsX6_nextNoise) := goodIn_app (goodIn_of _ (by decide +kernel)) ggX6_nextRawBit_X6_nextNoise
set_option maxRecDepth 20000 in
theorem ggX6_nextRawBit_X4_advance : GoodIn wsX6_nextRawBit wsX4_advance := goodIn_r _ [16, 17, 18, 19, 20, 21, 22, 54, 55, 56] (by decide +kernel) (by decide +kernel)
set_option maxRecDepth 20000 in
theorem gX6_nextRawBit_X4_advance : GoodIn wsX6_nextRawBit (wsV RX6 132 RX4 yX4_advance wsX4_advance) := goodIn_app (goodIn_of _ (by decide +kernel)) ggX6_nextRawBit_X4_advance
set_option maxRecDepth 20000 in
theorem ggX6_nextRawBit_X6_locksOn : GoodIn wsX6_nextRawBit wsX6_locksOn := goodIn_r _ [26, 1, 27, 4, 28, 29, 30, 31, 2, 32, 41, 42, 43, 44, 45, 46, 47, 48, 49, 54, 55, 56, 50, 51, 52, 53] (by decide +kernel) (by decide +kernel)
set_option maxRecDepth 20000 in
theorem gX6_nextRawBit_X6_locksOn : GoodIn wsX6_nextRawBit (wsV RX6 136 RX6 yX6_locksOn wsX6_locksOn) := goodIn_app (goodIn_of _ (by decide +kernel)) ggX6_nextRawBit_X6_locksOn
set_option maxRecDepth 20000 in
theorem ggX6_nextRawBit_X4_lockOn : GoodIn wsX6_nextRawBit wsX4_lockOn := goodIn_r _ [36, 17, 19, 20, 21, 22, 54, 55, 56] (by decide +kernel) (by decide +kernel)
set_option maxRecDepth 20000 in
theorem gX6_nextRawBit_X4_lockOn : GoodIn wsX6_nextRawBit (wsV RX6 140 RX4 yX4_lockOn wsX4_lockOn) := goodIn_app (goodIn_of _ (by decide +kernel)) ggX6_nextRawBit_X4_lockOn
set_option maxRecDepth 20000 in
theorem ggX6_nextRawBit_X4_isHigh : GoodIn wsX6_nextRawBit wsX4_isHigh := goodIn_r _ [40, 17, 19, 54, 55, 56] (by decide +kernel) (by decide +kernel)
set_option maxRecDepth 20000 in
theorem gX6_nextRawBit_X4_isHigh : GoodIn wsX6_nextRawBit (wsV RX6 143 RX4 yX4_isHigh wsX4_isHigh) := goodIn_app (goodIn_of _ (by decide +kernel)) ggX6_nextRawBit_X4_isHigh
