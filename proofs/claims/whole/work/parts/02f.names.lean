theorem dX9_ringOf_9 : decode cX9_ringOf 9 = .ok (.ldc 72, 2) := by decide +kernel
theorem dX9_ringOf_11 : decode cX9_ringOf 11 = .ok (.ireturn, 1) := by decide +kernel
theorem dX9_ringOf_12 : decode cX9_ringOf 12 = .ok (.aload_n 0, 1) := by decide +kernel
theorem dX9_ringOf_13 : decode cX9_ringOf 13 = .ok (.getfield 10, 3) := by decide +kernel
theorem dX9_ringOf_16 : decode cX9_ringOf 16 = .ok (.iload_n 1, 1) := by decide +kernel
theorem dX9_ringOf_17 : decode cX9_ringOf 17 = .ok (.invokevirtual 73, 3) := by decide +kernel
theorem dX9_ringOf_20 : decode cX9_ringOf 20 = .ok (.iload_n 2, 1) := by decide +kernel
theorem dX9_ringOf_21 : decode cX9_ringOf 21 = .ok (.invokevirtual 77, 3) := by decide +kernel
theorem dX9_ringOf_24 : decode cX9_ringOf 24 = .ok (.ireturn, 1) := by decide +kernel
set_option maxRecDepth 20000 in
theorem ggX9_source_X6_tell : GoodIn wsX9_source wsX6_tell := goodIn_r _ [6, 7, 8, 9, 10, 11, 12, 13, 14, 15, 16, 17, 18, 19, 20, 21, 22, 5, 23, 24, 25, 26, 27, 28, 29, 30, 31, 32, 37, 38, 39, 40, 41, 42, 43, 44, 45, 46, 47, 48, 49, 50, 51, 52, 53, 54, 55, 56, 57, 58, 59, 60, 61] (by decide +kernel) (by decide +kernel)
set_option maxRecDepth 20000 in
theorem gX9_source_X6_tell : GoodIn wsX9_source (wsV RX9 82 RX6 yX6_tell wsX6_tell) := goodIn_app (goodIn_of _ (by decide +kernel)) ggX9_source_X6_tell
theorem dX9_source_0 : decode cX9_source 0 = .ok (.aload_n 0, 1) := by decide +kernel
theorem dX9_source_1 : decode cX9_source 1 = .ok (.getfield 10, 3) := by decide +kernel
theorem dX9_source_4 : decode cX9_source 4 = .ok (.iload_n 1, 1) := by decide +kernel
theorem dX9_source_5 : decode cX9_source 5 = .ok (.invokevirtual 82, 3) := by decide +kernel
theorem dX9_source_8 : decode cX9_source 8 = .ok (.ireturn, 1) := by decide +kernel
set_option maxRecDepth 20000 in
theorem ggX9_raw_X9_isWithin : GoodIn wsX9_raw wsX9_isWithin := goodIn_r _ [9] (by decide +kernel) (by decide +kernel)
set_option maxRecDepth 20000 in
theorem gX9_raw_X9_isWithin : GoodIn wsX9_raw (va_wsS RX9 68 yX9_isWithin wsX9_isWithin) := goodIn_app (goodIn_of _ (by decide +kernel)) ggX9_raw_X9_isWithin
set_option maxRecDepth 20000 in
theorem ggX9_raw_X0_fromLatest : GoodIn wsX9_raw wsX0_fromLatest := goodIn_r _ [14, 15, 29, 30] (by decide +kernel) (by decide +kernel)
set_option maxRecDepth 20000 in
theorem gX9_raw_X0_fromLatest : GoodIn wsX9_raw (wsV RX9 93 RX0 yX0_fromLatest wsX0_fromLatest) := goodIn_app (goodIn_of _ (by decide +kernel)) ggX9_raw_X0_fromLatest
theorem dX9_raw_0 : decode cX9_raw 0 = .ok (.iload_n 1, 1) := by decide +kernel
theorem dX9_raw_1 : decode cX9_raw 1 = .ok (.iconst 0, 1) := by decide +kernel
theorem dX9_raw_2 : decode cX9_raw 2 = .ok (.bipush 63, 2) := by decide +kernel
theorem dX9_raw_4 : decode cX9_raw 4 = .ok (.invokestatic 68, 3) := by decide +kernel
theorem dX9_raw_7 : decode cX9_raw 7 = .ok (.ifCond .ne 6, 3) := by decide +kernel
theorem dX9_raw_10 : decode cX9_raw 10 = .ok (.ldc 72, 2) := by decide +kernel
theorem dX9_raw_12 : decode cX9_raw 12 = .ok (.ireturn, 1) := by decide +kernel
theorem dX9_raw_13 : decode cX9_raw 13 = .ok (.iload_n 1, 1) := by decide +kernel
theorem dX9_raw_14 : decode cX9_raw 14 = .ok (.aload_n 0, 1) := by decide +kernel
theorem dX9_raw_15 : decode cX9_raw 15 = .ok (.getfield 10, 3) := by decide +kernel
theorem dX9_raw_18 : decode cX9_raw 18 = .ok (.getfield 85, 3) := by decide +kernel
theorem dX9_raw_21 : decode cX9_raw 21 = .ok (.getfield 89, 3) := by decide +kernel
theorem dX9_raw_24 : decode cX9_raw 24 = .ok (.if_icmp .ge 17, 3) := by decide +kernel
theorem dX9_raw_27 : decode cX9_raw 27 = .ok (.aload_n 0, 1) := by decide +kernel
theorem dX9_raw_28 : decode cX9_raw 28 = .ok (.getfield 10, 3) := by decide +kernel
theorem dX9_raw_31 : decode cX9_raw 31 = .ok (.getfield 85, 3) := by decide +kernel
theorem dX9_raw_34 : decode cX9_raw 34 = .ok (.iload_n 1, 1) := by decide +kernel
theorem dX9_raw_35 : decode cX9_raw 35 = .ok (.invokevirtual 93, 3) := by decide +kernel
theorem dX9_raw_38 : decode cX9_raw 38 = .ok (.goto 5, 3) := by decide +kernel
theorem dX9_raw_41 : decode cX9_raw 41 = .ok (.ldc 96, 2) := by decide +kernel
theorem dX9_raw_43 : decode cX9_raw 43 = .ok (.ireturn, 1) := by decide +kernel
set_option maxRecDepth 20000 in
theorem ggX9_stored_X0_fromEarliest : GoodIn wsX9_stored wsX0_fromEarliest := goodIn_r _ [10, 11, 12, 13, 14, 9, 15, 16, 30, 31] (by decide +kernel) (by decide +kernel)
set_option maxRecDepth 20000 in
theorem gX9_stored_X0_fromEarliest : GoodIn wsX9_stored (wsV RX9 100 RX0 yX0_fromEarliest wsX0_fromEarliest) := goodIn_app (goodIn_of _ (by decide +kernel)) ggX9_stored_X0_fromEarliest
theorem dX9_stored_0 : decode cX9_stored 0 = .ok (.iload_n 1, 1) := by decide +kernel
theorem dX9_stored_1 : decode cX9_stored 1 = .ok (.ifCond .ge 6, 3) := by decide +kernel
theorem dX9_stored_4 : decode cX9_stored 4 = .ok (.ldc 72, 2) := by decide +kernel
theorem dX9_stored_6 : decode cX9_stored 6 = .ok (.ireturn, 1) := by decide +kernel
theorem dX9_stored_7 : decode cX9_stored 7 = .ok (.iload_n 1, 1) := by decide +kernel
theorem dX9_stored_8 : decode cX9_stored 8 = .ok (.aload_n 0, 1) := by decide +kernel
theorem dX9_stored_9 : decode cX9_stored 9 = .ok (.getfield 10, 3) := by decide +kernel
theorem dX9_stored_12 : decode cX9_stored 12 = .ok (.getfield 97, 3) := by decide +kernel
theorem dX9_stored_15 : decode cX9_stored 15 = .ok (.getfield 89, 3) := by decide +kernel
theorem dX9_stored_18 : decode cX9_stored 18 = .ok (.if_icmp .ge 17, 3) := by decide +kernel
theorem dX9_stored_21 : decode cX9_stored 21 = .ok (.aload_n 0, 1) := by decide +kernel
theorem dX9_stored_22 : decode cX9_stored 22 = .ok (.getfield 10, 3) := by decide +kernel
theorem dX9_stored_25 : decode cX9_stored 25 = .ok (.getfield 97, 3) := by decide +kernel
theorem dX9_stored_28 : decode cX9_stored 28 = .ok (.iload_n 1, 1) := by decide +kernel
theorem dX9_stored_29 : decode cX9_stored 29 = .ok (.invokevirtual 100, 3) := by decide +kernel
theorem dX9_stored_32 : decode cX9_stored 32 = .ok (.goto 5, 3) := by decide +kernel
theorem dX9_stored_35 : decode cX9_stored 35 = .ok (.ldc 96, 2) := by decide +kernel
theorem dX9_stored_37 : decode cX9_stored 37 = .ok (.ireturn, 1) := by decide +kernel
set_option maxRecDepth 20000 in
theorem ggX9_would_X9_isWithin : GoodIn wsX9_would wsX9_isWithin := goodIn_r _ [13] (by decide +kernel) (by decide +kernel)
set_option maxRecDepth 20000 in
theorem gX9_would_X9_isWithin : GoodIn wsX9_would (va_wsS RX9 68 yX9_isWithin wsX9_isWithin) := goodIn_app (goodIn_of _ (by decide +kernel)) ggX9_would_X9_isWithin
set_option maxRecDepth 20000 in
theorem ggX9_would_X6_copyFrom : GoodIn wsX9_would wsX6_copyFrom := goodIn_r _ [18, 19, 20, 21, 22, 23, 24, 25, 26, 27, 28, 29, 30, 31, 32, 33, 34, 35, 36, 37, 38, 39, 40, 41, 42, 43, 44, 45, 46, 47, 48, 49, 50, 51, 52, 53, 54, 55, 56, 57, 58, 59, 60, 61, 62, 63, 64, 65, 66, 67, 68, 69, 70, 71, 72, 73, 74, 75, 76, 170, 171, 172, 173, 174, 175, 176, 177, 178, 196, 197, 198, 199, 200, 201, 202, 181, 182, 183, 184, 185, 186, 187, 179, 180, 188, 189, 190, 191, 192, 193, 194, 195] (by decide +kernel) (by decide +kernel)
set_option maxRecDepth 20000 in
theorem gX9_would_X6_copyFrom : GoodIn wsX9_would (wsV RX9 33 RX6 yX6_copyFrom wsX6_copyFrom) := goodIn_app (goodIn_of _ (by decide +kernel)) ggX9_would_X6_copyFrom
set_option maxRecDepth 20000 in
theorem ggX9_would_X6_makeSamples : GoodIn wsX9_would wsX6_makeSamples := goodIn_r _ [80, 81, 25, 82, 11, 12, 13, 83, 84, 85, 17, 86, 19, 21, 87, 20, 88, 89, 90, 91, 26, 92, 93, 94, 95, 31, 96, 35, 34, 33, 97, 98, 99, 100, 101, 102, 103, 104, 105, 106, 107, 108, 109, 110, 111, 112, 113, 114, 115, 116, 117, 118, 119, 120, 23, 121, 122, 22, 123, 124, 125, 126, 127, 128, 129, 27, 130, 131, 132, 60, 133, 62, 63, 134, 135, 136, 48, 137, 138, 53, 139, 50, 140, 141, 142, 143, 54, 144, 145, 146, 147, 55, 56, 148, 149, 150, 151, 51, 152, 153, 154, 155, 52, 156, 157, 158, 159, 160, 24, 161, 162, 163, 164, 165, 170, 171, 172, 173, 174, 175, 176, 177, 178, 188, 189, 190, 191, 192, 193, 194, 195, 199, 200, 201, 202, 196, 197, 198, 181, 182, 183, 184, 185, 186, 187, 179, 180] (by decide +kernel) (by decide +kernel)
set_option maxRecDepth 20000 in
theorem gX9_would_X6_makeSamples : GoodIn wsX9_would (wsV RX9 48 RX6 yX6_makeSamples wsX6_makeSamples) := goodIn_app (goodIn_of _ (by decide +kernel)) ggX9_would_X6_makeSamples
theorem dX9_would_0 : decode cX9_would 0 = .ok (.iload_n 1, 1) := by decide +kernel
theorem dX9_would_1 : decode cX9_would 1 = .ok (.iconst 0, 1) := by decide +kernel
theorem dX9_would_2 : decode cX9_would 2 = .ok (.sipush 300, 3) := by decide +kernel
theorem dX9_would_5 : decode cX9_would 5 = .ok (.invokestatic 68, 3) := by decide +kernel
theorem dX9_would_8 : decode cX9_would 8 = .ok (.ifCond .eq 12, 3) := by decide +kernel
theorem dX9_would_11 : decode cX9_would 11 = .ok (.iload_n 2, 1) := by decide +kernel
theorem dX9_would_12 : decode cX9_would 12 = .ok (.iconst 0, 1) := by decide +kernel
theorem dX9_would_13 : decode cX9_would 13 = .ok (.iconst 2, 1) := by decide +kernel
theorem dX9_would_14 : decode cX9_would 14 = .ok (.invokestatic 68, 3) := by decide +kernel
theorem dX9_would_17 : decode cX9_would 17 = .ok (.ifCond .ne 6, 3) := by decide +kernel
theorem dX9_would_20 : decode cX9_would 20 = .ok (.ldc 72, 2) := by decide +kernel
theorem dX9_would_22 : decode cX9_would 22 = .ok (.ireturn, 1) := by decide +kernel
theorem dX9_would_23 : decode cX9_would 23 = .ok (.aload_n 0, 1) := by decide +kernel
theorem dX9_would_24 : decode cX9_would 24 = .ok (.getfield 16, 3) := by decide +kernel
theorem dX9_would_27 : decode cX9_would 27 = .ok (.aload_n 0, 1) := by decide +kernel
theorem dX9_would_28 : decode cX9_would 28 = .ok (.getfield 10, 3) := by decide +kernel
theorem dX9_would_31 : decode cX9_would 31 = .ok (.invokevirtual 33, 3) := by decide +kernel
theorem dX9_would_34 : decode cX9_would 34 = .ok (.iload_n 1, 1) := by decide +kernel
theorem dX9_would_35 : decode cX9_would 35 = .ok (.ifCond .le 12, 3) := by decide +kernel
theorem dX9_would_38 : decode cX9_would 38 = .ok (.aload_n 0, 1) := by decide +kernel
theorem dX9_would_39 : decode cX9_would 39 = .ok (.getfield 16, 3) := by decide +kernel
theorem dX9_would_42 : decode cX9_would 42 = .ok (.iload_n 1, 1) := by decide +kernel
theorem dX9_would_43 : decode cX9_would 43 = .ok (.invokevirtual 48, 3) := by decide +kernel
theorem dX9_would_46 : decode cX9_would 46 = .ok (.pop, 1) := by decide +kernel
theorem dX9_would_47 : decode cX9_would 47 = .ok (.iload_n 2, 1) := by decide +kernel
theorem dX9_would_48 : decode cX9_would 48 = .ok (.lookupswitch 50 #[(0, 28), (1, 39)], 28) := by decide +kernel
theorem dX9_would_76 : decode cX9_would 76 = .ok (.aload_n 0, 1) := by decide +kernel
theorem dX9_would_77 : decode cX9_would 77 = .ok (.getfield 16, 3) := by decide +kernel
theorem dX9_would_80 : decode cX9_would 80 = .ok (.getfield 97, 3) := by decide +kernel
theorem dX9_would_83 : decode cX9_would 83 = .ok (.getfield 89, 3) := by decide +kernel
theorem dX9_would_86 : decode cX9_would 86 = .ok (.ireturn, 1) := by decide +kernel
theorem dX9_would_87 : decode cX9_would 87 = .ok (.aload_n 0, 1) := by decide +kernel
theorem dX9_would_88 : decode cX9_would 88 = .ok (.getfield 16, 3) := by decide +kernel
theorem dX9_would_91 : decode cX9_would 91 = .ok (.getfield 103, 3) := by decide +kernel
theorem dX9_would_94 : decode cX9_would 94 = .ok (.getfield 107, 3) := by decide +kernel
theorem dX9_would_97 : decode cX9_would 97 = .ok (.ireturn, 1) := by decide +kernel
theorem dX9_would_98 : decode cX9_would 98 = .ok (.aload_n 0, 1) := by decide +kernel
theorem dX9_would_99 : decode cX9_would 99 = .ok (.getfield 16, 3) := by decide +kernel
theorem dX9_would_102 : decode cX9_would 102 = .ok (.getfield 112, 3) := by decide +kernel
theorem dX9_would_105 : decode cX9_would 105 = .ok (.getfield 116, 3) := by decide +kernel
theorem dX9_would_108 : decode cX9_would 108 = .ok (.aload_n 0, 1) := by decide +kernel
theorem dX9_would_109 : decode cX9_would 109 = .ok (.getfield 10, 3) := by decide +kernel
theorem dX9_would_112 : decode cX9_would 112 = .ok (.getfield 112, 3) := by decide +kernel
theorem dX9_would_115 : decode cX9_would 115 = .ok (.getfield 116, 3) := by decide +kernel
theorem dX9_would_118 : decode cX9_would 118 = .ok (.isub, 1) := by decide +kernel
theorem dX9_would_119 : decode cX9_would 119 = .ok (.ireturn, 1) := by decide +kernel
set_option maxRecDepth 20000 in
theorem ggX9_takes_X9_isWithin : GoodIn wsX9_takes wsX9_isWithin := goodIn_r _ [10] (by decide +kernel) (by decide +kernel)
set_option maxRecDepth 20000 in
theorem gX9_takes_X9_isWithin : GoodIn wsX9_takes (va_wsS RX9 68 yX9_isWithin wsX9_isWithin) := goodIn_app (goodIn_of _ (by decide +kernel)) ggX9_takes_X9_isWithin
set_option maxRecDepth 20000 in
theorem ggX9_takes_X6_copyFrom : GoodIn wsX9_takes wsX6_copyFrom := goodIn_r _ [15, 16, 17, 18, 19, 20, 21, 22, 23, 24, 25, 26, 27, 28, 29, 30, 31, 32, 33, 34, 35, 36, 37, 38, 39, 40, 41, 42, 43, 44, 45, 46, 47, 48, 49, 50, 51, 52, 53, 54, 55, 56, 57, 58, 59, 60, 61, 62, 63, 64, 65, 66, 67, 68, 69, 70, 71, 72, 73, 167, 168, 169, 170, 171, 172, 173, 174, 175, 178, 179, 180, 181, 182, 183, 184, 185, 186, 187, 188, 189, 190, 191, 176, 177, 192, 193, 194, 195, 196, 197, 198, 199] (by decide +kernel) (by decide +kernel)
set_option maxRecDepth 20000 in
theorem gX9_takes_X6_copyFrom : GoodIn wsX9_takes (wsV RX9 33 RX6 yX6_copyFrom wsX6_copyFrom) := goodIn_app (goodIn_of _ (by decide +kernel)) ggX9_takes_X6_copyFrom
set_option maxRecDepth 20000 in
theorem ggX9_takes_X6_makeSamples : GoodIn wsX9_takes wsX6_makeSamples := goodIn_r _ [77, 78, 22, 79, 8, 9, 10, 80, 81, 82, 14, 83, 16, 18, 84, 17, 85, 86, 87, 88, 23, 89, 90, 91, 92, 28, 93, 32, 31, 30, 94, 95, 96, 97, 98, 99, 100, 101, 102, 103, 104, 105, 106, 107, 108, 109, 110, 111, 112, 113, 114, 115, 116, 117, 20, 118, 119, 19, 120, 121, 122, 123, 124, 125, 126, 24, 127, 128, 129, 57, 130, 59, 60, 131, 132, 133, 45, 134, 135, 50, 136, 47, 137, 138, 139, 140, 51, 141, 142, 143, 144, 52, 53, 145, 146, 147, 148, 48, 149, 150, 151, 152, 49, 153, 154, 155, 156, 157, 21, 158, 159, 160, 161, 162, 167, 168, 169, 170, 171, 172, 173, 174, 175, 192, 193, 194, 195, 196, 197, 198, 199, 181, 182, 183, 184, 178, 179, 180, 185, 186, 187, 188, 189, 190, 191, 176, 177] (by decide +kernel) (by decide +kernel)
set_option maxRecDepth 20000 in
theorem gX9_takes_X6_makeSamples : GoodIn wsX9_takes (wsV RX9 48 RX6 yX6_makeSamples wsX6_makeSamples) := goodIn_app (goodIn_of _ (by decide +kernel)) ggX9_takes_X6_makeSamples
theorem dX9_takes_0 : decode cX9_takes 0 = .ok (.iload_n 1, 1) := by decide +kernel
theorem dX9_takes_1 : decode cX9_takes 1 = .ok (.iconst 1, 1) := by decide +kernel
theorem dX9_takes_2 : decode cX9_takes 2 = .ok (.bipush 64, 2) := by decide +kernel
theorem dX9_takes_4 : decode cX9_takes 4 = .ok (.invokestatic 68, 3) := by decide +kernel
theorem dX9_takes_7 : decode cX9_takes 7 = .ok (.ifCond .ne 6, 3) := by decide +kernel
theorem dX9_takes_10 : decode cX9_takes 10 = .ok (.ldc 72, 2) := by decide +kernel
theorem dX9_takes_12 : decode cX9_takes 12 = .ok (.ireturn, 1) := by decide +kernel
theorem dX9_takes_13 : decode cX9_takes 13 = .ok (.aload_n 0, 1) := by decide +kernel
theorem dX9_takes_14 : decode cX9_takes 14 = .ok (.getfield 16, 3) := by decide +kernel
theorem dX9_takes_17 : decode cX9_takes 17 = .ok (.aload_n 0, 1) := by decide +kernel
theorem dX9_takes_18 : decode cX9_takes 18 = .ok (.getfield 10, 3) := by decide +kernel
theorem dX9_takes_21 : decode cX9_takes 21 = .ok (.invokevirtual 33, 3) := by decide +kernel
theorem dX9_takes_24 : decode cX9_takes 24 = .ok (.iconst 0, 1) := by decide +kernel
theorem dX9_takes_25 : decode cX9_takes 25 = .ok (.istore_n 2, 1) := by decide +kernel
theorem dX9_takes_26 : decode cX9_takes 26 = .ok (.iload_n 2, 1) := by decide +kernel
theorem dX9_takes_27 : decode cX9_takes 27 = .ok (.sipush 2000, 3) := by decide +kernel
theorem dX9_takes_30 : decode cX9_takes 30 = .ok (.if_icmp .gt 34, 3) := by decide +kernel
theorem dX9_takes_33 : decode cX9_takes 33 = .ok (.aload_n 0, 1) := by decide +kernel
theorem dX9_takes_34 : decode cX9_takes 34 = .ok (.getfield 16, 3) := by decide +kernel
theorem dX9_takes_37 : decode cX9_takes 37 = .ok (.getfield 97, 3) := by decide +kernel
theorem dX9_takes_40 : decode cX9_takes 40 = .ok (.getfield 89, 3) := by decide +kernel
theorem dX9_takes_43 : decode cX9_takes 43 = .ok (.iload_n 1, 1) := by decide +kernel
theorem dX9_takes_44 : decode cX9_takes 44 = .ok (.if_icmp .lt 5, 3) := by decide +kernel
theorem dX9_takes_47 : decode cX9_takes 47 = .ok (.iload_n 2, 1) := by decide +kernel
theorem dX9_takes_48 : decode cX9_takes 48 = .ok (.ireturn, 1) := by decide +kernel
theorem dX9_takes_49 : decode cX9_takes 49 = .ok (.aload_n 0, 1) := by decide +kernel
theorem dX9_takes_50 : decode cX9_takes 50 = .ok (.getfield 16, 3) := by decide +kernel
theorem dX9_takes_53 : decode cX9_takes 53 = .ok (.iconst 1, 1) := by decide +kernel
theorem dX9_takes_54 : decode cX9_takes 54 = .ok (.invokevirtual 48, 3) := by decide +kernel
theorem dX9_takes_57 : decode cX9_takes 57 = .ok (.pop, 1) := by decide +kernel
theorem dX9_takes_58 : decode cX9_takes 58 = .ok (.iinc 2 1, 3) := by decide +kernel
theorem dX9_takes_61 : decode cX9_takes 61 = .ok (.goto (-35), 3) := by decide +kernel
theorem dX9_takes_64 : decode cX9_takes 64 = .ok (.ldc 96, 2) := by decide +kernel
theorem dX9_takes_66 : decode cX9_takes 66 = .ok (.ireturn, 1) := by decide +kernel
set_option maxRecDepth 20000 in
theorem ggX9_bestPeriod_X9_isWithin : GoodIn wsX9_bestPeriod wsX9_isWithin := goodIn_r _ [5] (by decide +kernel) (by decide +kernel)
set_option maxRecDepth 20000 in
theorem gX9_bestPeriod_X9_isWithin : GoodIn wsX9_bestPeriod (va_wsS RX9 68 yX9_isWithin wsX9_isWithin) := goodIn_app (goodIn_of _ (by decide +kernel)) ggX9_bestPeriod_X9_isWithin
set_option maxRecDepth 20000 in
theorem ggX9_bestPeriod_X9_bitsWithPeriod : GoodIn wsX9_bestPeriod wsX9_bitsWithPeriod := goodIn_r _ [9, 10, 11, 12, 13, 14, 15, 16, 17, 18, 19, 20, 21, 22, 23, 24, 25, 26, 27, 28, 29, 30, 31, 32, 33, 34, 35, 36, 37, 38, 39, 40, 41, 42, 43, 44, 45, 46, 47, 48, 49, 50, 51, 52, 53, 54, 55, 56, 57, 58, 59, 60, 61, 62, 63, 64, 65, 66, 67, 68, 69, 70, 71, 72, 73, 74, 75, 76, 77, 78, 79, 80, 81, 82, 83, 84, 85, 86, 3, 4, 5, 87, 88, 89, 90, 91, 92, 93, 94, 95, 96, 97, 98, 99, 100, 101, 102, 103, 104, 105, 106, 107, 108, 109, 110, 111, 112, 113, 114, 115, 116, 117, 118, 119, 120, 121, 122, 123, 124, 125, 126, 127, 128, 129, 130, 131, 132, 133, 134, 135, 136, 137, 138, 139, 140, 141, 142, 143, 144, 145, 146, 147, 148, 149, 150, 151, 152, 153, 154, 155, 156, 157, 158, 159, 160, 161, 162, 163, 164, 165, 166, 167, 168, 169, 170, 171, 172, 173, 174, 175, 176, 177, 178, 179, 180, 181, 182, 183, 184, 185, 186, 187, 188, 189, 190, 191, 192, 193, 194, 195, 196, 197, 198, 199, 200, 201, 202, 203, 204, 205, 206, 207, 208, 209, 210, 211, 212, 213, 214] (by decide +kernel) (by decide +kernel)
set_option maxRecDepth 20000 in
theorem gX9_bestPeriod_X9_bitsWithPeriod : GoodIn wsX9_bestPeriod (wsV RX9 121 RX9 yX9_bitsWithPeriod wsX9_bitsWithPeriod) := goodIn_app (goodIn_of _ (by decide +kernel)) ggX9_bestPeriod_X9_bitsWithPeriod
theorem dX9_bestPeriod_0 : decode cX9_bestPeriod 0 = .ok (.iload_n 1, 1) := by decide +kernel
theorem dX9_bestPeriod_1 : decode cX9_bestPeriod 1 = .ok (.iconst 0, 1) := by decide +kernel
theorem dX9_bestPeriod_2 : decode cX9_bestPeriod 2 = .ok (.iconst 1, 1) := by decide +kernel
theorem dX9_bestPeriod_3 : decode cX9_bestPeriod 3 = .ok (.invokestatic 68, 3) := by decide +kernel
theorem dX9_bestPeriod_6 : decode cX9_bestPeriod 6 = .ok (.ifCond .ne 6, 3) := by decide +kernel
theorem dX9_bestPeriod_9 : decode cX9_bestPeriod 9 = .ok (.ldc 72, 2) := by decide +kernel
theorem dX9_bestPeriod_11 : decode cX9_bestPeriod 11 = .ok (.ireturn, 1) := by decide +kernel
theorem dX9_bestPeriod_12 : decode cX9_bestPeriod 12 = .ok (.iconst 0, 1) := by decide +kernel
theorem dX9_bestPeriod_13 : decode cX9_bestPeriod 13 = .ok (.istore_n 2, 1) := by decide +kernel
theorem dX9_bestPeriod_14 : decode cX9_bestPeriod 14 = .ok (.iconst (-1), 1) := by decide +kernel
theorem dX9_bestPeriod_15 : decode cX9_bestPeriod 15 = .ok (.istore_n 3, 1) := by decide +kernel
theorem dX9_bestPeriod_16 : decode cX9_bestPeriod 16 = .ok (.bipush 20, 2) := by decide +kernel
theorem dX9_bestPeriod_18 : decode cX9_bestPeriod 18 = .ok (.istore 4, 2) := by decide +kernel
theorem dX9_bestPeriod_20 : decode cX9_bestPeriod 20 = .ok (.iload 4, 2) := by decide +kernel
theorem dX9_bestPeriod_22 : decode cX9_bestPeriod 22 = .ok (.sipush 400, 3) := by decide +kernel
theorem dX9_bestPeriod_25 : decode cX9_bestPeriod 25 = .ok (.if_icmp .gt 29, 3) := by decide +kernel
theorem dX9_bestPeriod_28 : decode cX9_bestPeriod 28 = .ok (.aload_n 0, 1) := by decide +kernel
theorem dX9_bestPeriod_29 : decode cX9_bestPeriod 29 = .ok (.iload 4, 2) := by decide +kernel
theorem dX9_bestPeriod_31 : decode cX9_bestPeriod 31 = .ok (.invokevirtual 121, 3) := by decide +kernel
theorem dX9_bestPeriod_34 : decode cX9_bestPeriod 34 = .ok (.istore 5, 2) := by decide +kernel
theorem dX9_bestPeriod_36 : decode cX9_bestPeriod 36 = .ok (.iload 5, 2) := by decide +kernel
theorem dX9_bestPeriod_38 : decode cX9_bestPeriod 38 = .ok (.iload_n 3, 1) := by decide +kernel
theorem dX9_bestPeriod_39 : decode cX9_bestPeriod 39 = .ok (.if_icmp .le 9, 3) := by decide +kernel
theorem dX9_bestPeriod_42 : decode cX9_bestPeriod 42 = .ok (.iload 4, 2) := by decide +kernel
theorem dX9_bestPeriod_44 : decode cX9_bestPeriod 44 = .ok (.istore_n 2, 1) := by decide +kernel
theorem dX9_bestPeriod_45 : decode cX9_bestPeriod 45 = .ok (.iload 5, 2) := by decide +kernel
theorem dX9_bestPeriod_47 : decode cX9_bestPeriod 47 = .ok (.istore_n 3, 1) := by decide +kernel
theorem dX9_bestPeriod_48 : decode cX9_bestPeriod 48 = .ok (.iinc 4 20, 3) := by decide +kernel
theorem dX9_bestPeriod_51 : decode cX9_bestPeriod 51 = .ok (.goto (-31), 3) := by decide +kernel
theorem dX9_bestPeriod_54 : decode cX9_bestPeriod 54 = .ok (.iload_n 1, 1) := by decide +kernel
theorem dX9_bestPeriod_55 : decode cX9_bestPeriod 55 = .ok (.ifCond .ne 7, 3) := by decide +kernel
theorem dX9_bestPeriod_58 : decode cX9_bestPeriod 58 = .ok (.iload_n 2, 1) := by decide +kernel
theorem dX9_bestPeriod_59 : decode cX9_bestPeriod 59 = .ok (.goto 4, 3) := by decide +kernel
theorem dX9_bestPeriod_62 : decode cX9_bestPeriod 62 = .ok (.iload_n 3, 1) := by decide +kernel
theorem dX9_bestPeriod_63 : decode cX9_bestPeriod 63 = .ok (.ireturn, 1) := by decide +kernel
set_option maxRecDepth 20000 in
theorem ggX9_share_X0_ones : GoodIn wsX9_share wsX0_ones := goodIn_r _ [9, 10, 11, 12, 13, 14, 15, 16, 17, 36, 37] (by decide +kernel) (by decide +kernel)
set_option maxRecDepth 20000 in
theorem gX9_share_X0_ones : GoodIn wsX9_share (wsV RX9 124 RX0 yX0_ones wsX0_ones) := goodIn_app (goodIn_of _ (by decide +kernel)) ggX9_share_X0_ones
set_option maxRecDepth 20000 in
theorem ggX9_share_X9_bitsOfShare : GoodIn wsX9_share wsX9_bitsOfShare := goodIn_r _ [21, 22] (by decide +kernel) (by decide +kernel)
set_option maxRecDepth 20000 in
theorem gX9_share_X9_bitsOfShare : GoodIn wsX9_share (va_wsS RX9 127 yX9_bitsOfShare wsX9_bitsOfShare) := goodIn_app (goodIn_of _ (by decide +kernel)) ggX9_share_X9_bitsOfShare
theorem dX9_share_0 : decode cX9_share 0 = .ok (.aload_n 0, 1) := by decide +kernel
theorem dX9_share_1 : decode cX9_share 1 = .ok (.getfield 10, 3) := by decide +kernel
theorem dX9_share_4 : decode cX9_share 4 = .ok (.getfield 85, 3) := by decide +kernel
theorem dX9_share_7 : decode cX9_share 7 = .ok (.getfield 89, 3) := by decide +kernel
theorem dX9_share_10 : decode cX9_share 10 = .ok (.istore_n 1, 1) := by decide +kernel
theorem dX9_share_11 : decode cX9_share 11 = .ok (.iload_n 1, 1) := by decide +kernel
theorem dX9_share_12 : decode cX9_share 12 = .ok (.ifCond .gt 6, 3) := by decide +kernel
theorem dX9_share_15 : decode cX9_share 15 = .ok (.ldc 96, 2) := by decide +kernel
theorem dX9_share_17 : decode cX9_share 17 = .ok (.ireturn, 1) := by decide +kernel
theorem dX9_share_18 : decode cX9_share 18 = .ok (.aload_n 0, 1) := by decide +kernel
theorem dX9_share_19 : decode cX9_share 19 = .ok (.getfield 10, 3) := by decide +kernel
theorem dX9_share_22 : decode cX9_share 22 = .ok (.getfield 85, 3) := by decide +kernel
theorem dX9_share_25 : decode cX9_share 25 = .ok (.invokevirtual 124, 3) := by decide +kernel
theorem dX9_share_28 : decode cX9_share 28 = .ok (.i2f, 1) := by decide +kernel
theorem dX9_share_29 : decode cX9_share 29 = .ok (.iload_n 1, 1) := by decide +kernel
theorem dX9_share_30 : decode cX9_share 30 = .ok (.i2f, 1) := by decide +kernel
theorem dX9_share_31 : decode cX9_share 31 = .ok (.fdiv, 1) := by decide +kernel
theorem dX9_share_32 : decode cX9_share 32 = .ok (.invokestatic 127, 3) := by decide +kernel
theorem dX9_share_35 : decode cX9_share 35 = .ok (.ireturn, 1) := by decide +kernel
set_option maxRecDepth 20000 in
theorem ggX9_count_X9_isWithin : GoodIn wsX9_count wsX9_isWithin := goodIn_r _ [12] (by decide +kernel) (by decide +kernel)
set_option maxRecDepth 20000 in
theorem gX9_count_X9_isWithin : GoodIn wsX9_count (va_wsS RX9 68 yX9_isWithin wsX9_isWithin) := goodIn_app (goodIn_of _ (by decide +kernel)) ggX9_count_X9_isWithin
set_option maxRecDepth 20000 in
theorem ggX9_count_X5_tell : GoodIn wsX9_count wsX5_tell := goodIn_r _ [17, 18, 19, 20, 21, 22, 67, 68, 69, 70] (by decide +kernel) (by decide +kernel)
set_option maxRecDepth 20000 in
theorem gX9_count_X5_tell : GoodIn wsX9_count (wsV RX9 131 RX5 yX5_tell wsX5_tell) := goodIn_app (goodIn_of _ (by decide +kernel)) ggX9_count_X5_tell
set_option maxRecDepth 20000 in
theorem ggX9_count_X7_tell : GoodIn wsX9_count wsX7_tell := goodIn_r _ [27, 28, 29, 30, 31, 32, 33, 34, 35, 36, 71, 72, 73, 74, 75, 76, 77, 78] (by decide +kernel) (by decide +kernel)
set_option maxRecDepth 20000 in
theorem gX9_count_X7_tell : GoodIn wsX9_count (wsV RX9 144 RX7 yX7_tell wsX7_tell) := goodIn_app (goodIn_of _ (by decide +kernel)) ggX9_count_X7_tell
theorem dX9_count_0 : decode cX9_count 0 = .ok (.iload_n 1, 1) := by decide +kernel
theorem dX9_count_1 : decode cX9_count 1 = .ok (.bipush 20, 2) := by decide +kernel
theorem dX9_count_3 : decode cX9_count 3 = .ok (.bipush 23, 2) := by decide +kernel
theorem dX9_count_5 : decode cX9_count 5 = .ok (.invokestatic 68, 3) := by decide +kernel
theorem dX9_count_8 : decode cX9_count 8 = .ok (.ifCond .eq 18, 3) := by decide +kernel
theorem dX9_count_11 : decode cX9_count 11 = .ok (.aload_n 0, 1) := by decide +kernel
theorem dX9_count_12 : decode cX9_count 12 = .ok (.getfield 10, 3) := by decide +kernel
theorem dX9_count_15 : decode cX9_count 15 = .ok (.getfield 58, 3) := by decide +kernel
theorem dX9_count_18 : decode cX9_count 18 = .ok (.iload_n 1, 1) := by decide +kernel
theorem dX9_count_19 : decode cX9_count 19 = .ok (.bipush 20, 2) := by decide +kernel
theorem dX9_count_21 : decode cX9_count 21 = .ok (.isub, 1) := by decide +kernel
theorem dX9_count_22 : decode cX9_count 22 = .ok (.invokevirtual 131, 3) := by decide +kernel
theorem dX9_count_25 : decode cX9_count 25 = .ok (.ireturn, 1) := by decide +kernel
theorem dX9_count_26 : decode cX9_count 26 = .ok (.iload_n 1, 1) := by decide +kernel
theorem dX9_count_27 : decode cX9_count 27 = .ok (.bipush 8, 2) := by decide +kernel
theorem dX9_count_29 : decode cX9_count 29 = .ok (.if_icmp .ne 11, 3) := by decide +kernel
theorem dX9_count_32 : decode cX9_count 32 = .ok (.aload_n 0, 1) := by decide +kernel
theorem dX9_count_33 : decode cX9_count 33 = .ok (.getfield 22, 3) := by decide +kernel
theorem dX9_count_36 : decode cX9_count 36 = .ok (.getfield 132, 3) := by decide +kernel
theorem dX9_count_39 : decode cX9_count 39 = .ok (.ireturn, 1) := by decide +kernel
theorem dX9_count_40 : decode cX9_count 40 = .ok (.iload_n 1, 1) := by decide +kernel
theorem dX9_count_41 : decode cX9_count 41 = .ok (.bipush 9, 2) := by decide +kernel
theorem dX9_count_43 : decode cX9_count 43 = .ok (.if_icmp .ne 14, 3) := by decide +kernel
theorem dX9_count_46 : decode cX9_count 46 = .ok (.aload_n 0, 1) := by decide +kernel
theorem dX9_count_47 : decode cX9_count 47 = .ok (.getfield 29, 3) := by decide +kernel
theorem dX9_count_50 : decode cX9_count 50 = .ok (.getfield 135, 3) := by decide +kernel
theorem dX9_count_53 : decode cX9_count 53 = .ok (.getfield 139, 3) := by decide +kernel
theorem dX9_count_56 : decode cX9_count 56 = .ok (.ireturn, 1) := by decide +kernel
theorem dX9_count_57 : decode cX9_count 57 = .ok (.aload_n 0, 1) := by decide +kernel
theorem dX9_count_58 : decode cX9_count 58 = .ok (.getfield 10, 3) := by decide +kernel
theorem dX9_count_61 : decode cX9_count 61 = .ok (.getfield 112, 3) := by decide +kernel
theorem dX9_count_64 : decode cX9_count 64 = .ok (.iload_n 1, 1) := by decide +kernel
theorem dX9_count_65 : decode cX9_count 65 = .ok (.invokevirtual 144, 3) := by decide +kernel
theorem dX9_count_68 : decode cX9_count 68 = .ok (.ireturn, 1) := by decide +kernel
set_option maxRecDepth 20000 in
theorem ggX9_undo_X2_bringBack : GoodIn wsX9_undo wsX2_bringBack := goodIn_r _ [7, 8, 9, 10, 11, 12, 13, 14, 15, 16, 17, 18, 19, 20, 21, 22, 23, 24, 25, 26, 27, 28, 29, 30, 31, 32, 33, 34, 35, 36, 37, 38, 39, 40, 41, 42, 43, 44, 45, 46, 47, 48, 49, 50, 51, 52, 53, 54, 55, 56, 57, 58, 59, 60, 61, 62, 63, 64, 65, 66, 67, 68, 69, 70, 71, 72, 73, 74, 75, 76, 81, 82, 83, 84, 85, 86, 87, 88, 89, 90, 91, 92, 93, 94, 95, 96, 97, 98, 99, 100, 101, 102, 103, 104, 105, 106, 107, 108, 109, 110, 111, 112, 113, 114, 115, 116, 117, 118] (by decide +kernel) (by decide +kernel)
set_option maxRecDepth 20000 in
theorem gX9_undo_X2_bringBack : GoodIn wsX9_undo (wsV RX9 145 RX2 yX2_bringBack wsX2_bringBack) := goodIn_app (goodIn_of _ (by decide +kernel)) ggX9_undo_X2_bringBack
theorem dX9_undo_0 : decode cX9_undo 0 = .ok (.aload_n 0, 1) := by decide +kernel
theorem dX9_undo_1 : decode cX9_undo 1 = .ok (.getfield 22, 3) := by decide +kernel
theorem dX9_undo_4 : decode cX9_undo 4 = .ok (.aload_n 0, 1) := by decide +kernel
theorem dX9_undo_5 : decode cX9_undo 5 = .ok (.getfield 10, 3) := by decide +kernel
theorem dX9_undo_8 : decode cX9_undo 8 = .ok (.invokevirtual 145, 3) := by decide +kernel
theorem dX9_undo_11 : decode cX9_undo 11 = .ok (.ireturn, 1) := by decide +kernel
set_option maxRecDepth 20000 in
theorem ggX9_type_X8_append : GoodIn wsX9_type wsX8_append := goodIn_r _ [7, 8, 9, 10, 11, 12, 13, 14, 29, 30] (by decide +kernel) (by decide +kernel)
set_option maxRecDepth 20000 in
theorem gX9_type_X8_append : GoodIn wsX9_type (wsV RX9 149 RX8 yX8_append wsX8_append) := goodIn_app (goodIn_of _ (by decide +kernel)) ggX9_type_X8_append
theorem dX9_type_0 : decode cX9_type 0 = .ok (.aload_n 0, 1) := by decide +kernel
theorem dX9_type_1 : decode cX9_type 1 = .ok (.getfield 29, 3) := by decide +kernel
theorem dX9_type_4 : decode cX9_type 4 = .ok (.getfield 135, 3) := by decide +kernel
theorem dX9_type_7 : decode cX9_type 7 = .ok (.iload_n 1, 1) := by decide +kernel
theorem dX9_type_8 : decode cX9_type 8 = .ok (.invokevirtual 149, 3) := by decide +kernel
theorem dX9_type_11 : decode cX9_type 11 = .ok (.ireturn, 1) := by decide +kernel
set_option maxRecDepth 20000 in
theorem ggX9_clearText_X8_clear : GoodIn wsX9_clearText wsX8_clear := goodIn_r _ [7, 8, 23, 24] (by decide +kernel) (by decide +kernel)
set_option maxRecDepth 20000 in
theorem gX9_clearText_X8_clear : GoodIn wsX9_clearText (wsV RX9 152 RX8 yX8_clear wsX8_clear) := goodIn_app (goodIn_of _ (by decide +kernel)) ggX9_clearText_X8_clear
theorem dX9_clearText_0 : decode cX9_clearText 0 = .ok (.aload_n 0, 1) := by decide +kernel
theorem dX9_clearText_1 : decode cX9_clearText 1 = .ok (.getfield 29, 3) := by decide +kernel
theorem dX9_clearText_4 : decode cX9_clearText 4 = .ok (.getfield 135, 3) := by decide +kernel
theorem dX9_clearText_7 : decode cX9_clearText 7 = .ok (.invokevirtual 152, 3) := by decide +kernel
theorem dX9_clearText_10 : decode cX9_clearText 10 = .ok (.ireturn, 1) := by decide +kernel
set_option maxRecDepth 20000 in
theorem ggX9_fault_X9_isWithin : GoodIn wsX9_fault wsX9_isWithin := goodIn_r _ [12] (by decide +kernel) (by decide +kernel)
set_option maxRecDepth 20000 in
theorem gX9_fault_X9_isWithin : GoodIn wsX9_fault (va_wsS RX9 68 yX9_isWithin wsX9_isWithin) := goodIn_app (goodIn_of _ (by decide +kernel)) ggX9_fault_X9_isWithin
set_option maxRecDepth 20000 in
theorem ggX9_fault_X6_copyFrom : GoodIn wsX9_fault wsX6_copyFrom := goodIn_r _ [17, 18, 19, 20, 21, 22, 23, 24, 25, 26, 27, 28, 29, 30, 31, 32, 33, 34, 35, 36, 37, 38, 39, 40, 41, 42, 43, 44, 45, 46, 47, 48, 49, 50, 51, 52, 53, 54, 55, 56, 57, 58, 59, 60, 61, 62, 63, 64, 65, 66, 67, 68, 69, 70, 71, 72, 73, 74, 75, 263, 264, 265, 266, 267, 268, 269, 270, 271, 272, 273, 274, 275, 276, 277, 278, 279, 280, 281, 282, 283, 284, 285, 286, 287, 288, 289, 290, 291, 292, 293, 294, 295] (by decide +kernel) (by decide +kernel)
set_option maxRecDepth 20000 in
theorem gX9_fault_X6_copyFrom : GoodIn wsX9_fault (wsV RX9 33 RX6 yX6_copyFrom wsX6_copyFrom) := goodIn_app (goodIn_of _ (by decide +kernel)) ggX9_fault_X6_copyFrom
set_option maxRecDepth 20000 in
theorem ggX9_fault_X3_areDoneOn : GoodIn wsX9_fault wsX3_areDoneOn := goodIn_r _ [80, 81, 82, 83, 84, 85, 86, 87, 88, 89, 90, 79, 91, 92, 93, 94, 95, 96, 97, 98, 99, 100, 101, 102, 103, 10, 11, 12, 104, 105, 106, 107, 108, 109, 110, 111, 112, 113, 114, 115, 116, 117, 118, 119, 120, 121, 122, 123, 124, 125, 16, 126, 127, 128, 129, 130, 131, 132, 133, 134, 18, 19, 135, 136, 137, 138, 24, 139, 140, 141, 142, 143, 20, 144, 145, 146, 147, 148, 25, 149, 150, 151, 152, 30, 153, 34, 33, 32, 154, 155, 156, 157, 158, 159, 160, 161, 162, 163, 164, 165, 166, 167, 168, 169, 170, 171, 172, 173, 174, 175, 22, 176, 177, 21, 178, 179, 180, 181, 182, 183, 184, 26, 185, 186, 187, 59, 188, 61, 62, 189, 190, 191, 47, 192, 193, 52, 194, 49, 195, 196, 197, 198, 53, 199, 200, 201, 202, 54, 55, 203, 204, 205, 206, 50, 207, 208, 209, 210, 51, 211, 212, 213, 214, 215, 23, 216, 217, 218, 219, 220, 221, 222, 223, 224, 225, 226, 227, 228, 229, 230, 231, 232, 233, 234, 235, 236, 237, 238, 239, 240, 241, 242, 243, 244, 245, 246, 247, 248, 253, 254, 255, 256, 257, 258, 259, 260, 261, 262, 296, 297, 272, 273, 274, 263, 264, 265, 266, 267, 268, 269, 270, 271, 288, 289, 290, 291, 292, 293, 294, 295, 275, 276, 277, 278, 279, 280, 281, 282, 283, 284, 285, 286, 287] (by decide +kernel) (by decide +kernel)
set_option maxRecDepth 20000 in
theorem gX9_fault_X3_areDoneOn : GoodIn wsX9_fault (wsV RX9 155 RX3 yX3_areDoneOn wsX3_areDoneOn) := goodIn_app (goodIn_of _ (by decide +kernel)) ggX9_fault_X3_areDoneOn
theorem dX9_fault_0 : decode cX9_fault 0 = .ok (.iload_n 1, 1) := by decide +kernel
theorem dX9_fault_1 : decode cX9_fault 1 = .ok (.iconst 0, 1) := by decide +kernel
theorem dX9_fault_2 : decode cX9_fault 2 = .ok (.iconst 2, 1) := by decide +kernel
theorem dX9_fault_3 : decode cX9_fault 3 = .ok (.invokestatic 68, 3) := by decide +kernel
theorem dX9_fault_6 : decode cX9_fault 6 = .ok (.ifCond .ne 6, 3) := by decide +kernel
theorem dX9_fault_9 : decode cX9_fault 9 = .ok (.ldc 72, 2) := by decide +kernel
theorem dX9_fault_11 : decode cX9_fault 11 = .ok (.ireturn, 1) := by decide +kernel
theorem dX9_fault_12 : decode cX9_fault 12 = .ok (.aload_n 0, 1) := by decide +kernel
theorem dX9_fault_13 : decode cX9_fault 13 = .ok (.getfield 16, 3) := by decide +kernel
theorem dX9_fault_16 : decode cX9_fault 16 = .ok (.aload_n 0, 1) := by decide +kernel
theorem dX9_fault_17 : decode cX9_fault 17 = .ok (.getfield 10, 3) := by decide +kernel
theorem dX9_fault_20 : decode cX9_fault 20 = .ok (.invokevirtual 33, 3) := by decide +kernel
theorem dX9_fault_23 : decode cX9_fault 23 = .ok (.aload_n 0, 1) := by decide +kernel
theorem dX9_fault_24 : decode cX9_fault 24 = .ok (.getfield 29, 3) := by decide +kernel
theorem dX9_fault_27 : decode cX9_fault 27 = .ok (.aload_n 0, 1) := by decide +kernel
theorem dX9_fault_28 : decode cX9_fault 28 = .ok (.getfield 16, 3) := by decide +kernel
theorem dX9_fault_31 : decode cX9_fault 31 = .ok (.invokevirtual 155, 3) := by decide +kernel
theorem dX9_fault_34 : decode cX9_fault 34 = .ok (.ifCond .eq 6, 3) := by decide +kernel
theorem dX9_fault_37 : decode cX9_fault 37 = .ok (.ldc 96, 2) := by decide +kernel
theorem dX9_fault_39 : decode cX9_fault 39 = .ok (.ireturn, 1) := by decide +kernel
theorem dX9_fault_40 : decode cX9_fault 40 = .ok (.iload_n 1, 1) := by decide +kernel
theorem dX9_fault_41 : decode cX9_fault 41 = .ok (.lookupswitch 43 #[(0, 27), (1, 35)], 27) := by decide +kernel
theorem dX9_fault_68 : decode cX9_fault 68 = .ok (.aload_n 0, 1) := by decide +kernel
theorem dX9_fault_69 : decode cX9_fault 69 = .ok (.getfield 29, 3) := by decide +kernel
theorem dX9_fault_72 : decode cX9_fault 72 = .ok (.getfield 159, 3) := by decide +kernel
theorem dX9_fault_75 : decode cX9_fault 75 = .ok (.ireturn, 1) := by decide +kernel
theorem dX9_fault_76 : decode cX9_fault 76 = .ok (.aload_n 0, 1) := by decide +kernel
theorem dX9_fault_77 : decode cX9_fault 77 = .ok (.getfield 29, 3) := by decide +kernel
theorem dX9_fault_80 : decode cX9_fault 80 = .ok (.getfield 162, 3) := by decide +kernel
theorem dX9_fault_83 : decode cX9_fault 83 = .ok (.ireturn, 1) := by decide +kernel
theorem dX9_fault_84 : decode cX9_fault 84 = .ok (.aload_n 0, 1) := by decide +kernel
theorem dX9_fault_85 : decode cX9_fault 85 = .ok (.getfield 29, 3) := by decide +kernel
theorem dX9_fault_88 : decode cX9_fault 88 = .ok (.getfield 165, 3) := by decide +kernel
theorem dX9_fault_91 : decode cX9_fault 91 = .ok (.ireturn, 1) := by decide +kernel
set_option maxRecDepth 20000 in
theorem ggX9_play_X6_copyFrom : GoodIn wsX9_play wsX6_copyFrom := goodIn_r _ [10, 11, 12, 13, 14, 15, 16, 17, 18, 19, 20, 21, 22, 23, 24, 25, 26, 27, 28, 29, 30, 31, 32, 33, 34, 35, 36, 37, 38, 39, 40, 41, 42, 43, 44, 45, 46, 47, 48, 49, 50, 51, 52, 53, 54, 55, 56, 57, 58, 59, 60, 61, 62, 63, 64, 65, 66, 67, 68, 275, 276, 277, 278, 279, 280, 281, 282, 283, 284, 285, 286, 287, 288, 289, 290, 291, 292, 293, 294, 295, 296, 297, 298, 299, 300, 301, 302, 303, 304, 305, 306, 307] (by decide +kernel) (by decide +kernel)
set_option maxRecDepth 20000 in
theorem gX9_play_X6_copyFrom : GoodIn wsX9_play (wsV RX9 33 RX6 yX6_copyFrom wsX6_copyFrom) := goodIn_app (goodIn_of _ (by decide +kernel)) ggX9_play_X6_copyFrom
set_option maxRecDepth 20000 in
theorem ggX9_play_X3_areDoneOn : GoodIn wsX9_play wsX3_areDoneOn := goodIn_r _ [73, 74, 75, 76, 77, 78, 79, 80, 81, 82, 83, 72, 84, 85, 86, 87, 88, 89, 90, 91, 92, 93, 94, 95, 96, 97, 98, 99, 100, 101, 102, 103, 104, 105, 106, 107, 108, 109, 110, 111, 112, 113, 114, 115, 116, 117, 118, 119, 120, 121, 9, 122, 123, 124, 125, 126, 127, 128, 129, 130, 11, 12, 131, 132, 133, 134, 17, 135, 136, 137, 138, 139, 13, 140, 141, 142, 143, 144, 18, 145, 146, 147, 148, 23, 149, 27, 26, 25, 150, 151, 152, 153, 154, 155, 156, 157, 158, 159, 160, 161, 162, 163, 164, 165, 166, 167, 168, 169, 170, 171, 15, 172, 173, 14, 174, 175, 176, 177, 178, 179, 180, 19, 181, 182, 183, 52, 184, 54, 55, 185, 186, 187, 40, 188, 189, 45, 190, 42, 191, 192, 193, 194, 46, 195, 196, 197, 198, 47, 48, 199, 200, 201, 202, 43, 203, 204, 205, 206, 44, 207, 208, 209, 210, 211, 16, 212, 213, 214, 215, 216, 217, 218, 219, 220, 221, 222, 223, 224, 225, 226, 227, 228, 229, 230, 231, 232, 233, 234, 235, 236, 237, 238, 239, 240, 241, 242, 243, 244, 265, 266, 267, 268, 269, 270, 271, 272, 273, 274, 308, 309, 284, 285, 286, 275, 276, 277, 278, 279, 280, 281, 282, 283, 300, 301, 302, 303, 304, 305, 306, 307, 287, 288, 289, 290, 291, 292, 293, 294, 295, 296, 297, 298, 299] (by decide +kernel) (by decide +kernel)
set_option maxRecDepth 20000 in
theorem gX9_play_X3_areDoneOn : GoodIn wsX9_play (wsV RX9 155 RX3 yX3_areDoneOn wsX3_areDoneOn) := goodIn_app (goodIn_of _ (by decide +kernel)) ggX9_play_X3_areDoneOn
set_option maxRecDepth 20000 in
theorem ggX9_play_X9_settle : GoodIn wsX9_play wsX9_settle := goodIn_r _ [248, 249, 2, 1, 250, 251, 252, 253, 254, 255, 256, 257, 258, 259, 260, 7, 8, 9, 10, 11, 12, 13, 14, 15, 16, 17, 18, 19, 20, 21, 22, 23, 24, 25, 26, 27, 28, 29, 30, 31, 32, 33, 34, 35, 36, 37, 38, 39, 40, 41, 42, 43, 44, 45, 46, 47, 48, 49, 50, 51, 52, 53, 54, 55, 56, 57, 58, 59, 60, 61, 62, 63, 64, 65, 66, 67, 68, 6, 261, 262, 263, 264, 310, 311, 312, 313, 314, 275, 276, 277, 278, 279, 280, 281, 282, 283, 284, 285, 286, 287, 288, 289, 290, 291, 292, 293, 294, 295, 296, 297, 298, 299, 300, 301, 302, 303, 304, 305, 306, 307] (by decide +kernel) (by decide +kernel)
set_option maxRecDepth 20000 in
theorem gX9_play_X9_settle : GoodIn wsX9_play (wsV RX9 41 RX9 yX9_settle wsX9_settle) := goodIn_app (goodIn_of _ (by decide +kernel)) ggX9_play_X9_settle
theorem dX9_play_0 : decode cX9_play 0 = .ok (.aload_n 0, 1) := by decide +kernel
theorem dX9_play_1 : decode cX9_play 1 = .ok (.getfield 16, 3) := by decide +kernel
theorem dX9_play_4 : decode cX9_play 4 = .ok (.aload_n 0, 1) := by decide +kernel
theorem dX9_play_5 : decode cX9_play 5 = .ok (.getfield 10, 3) := by decide +kernel
theorem dX9_play_8 : decode cX9_play 8 = .ok (.invokevirtual 33, 3) := by decide +kernel
theorem dX9_play_11 : decode cX9_play 11 = .ok (.aload_n 0, 1) := by decide +kernel
theorem dX9_play_12 : decode cX9_play 12 = .ok (.aload_n 0, 1) := by decide +kernel
theorem dX9_play_13 : decode cX9_play 13 = .ok (.getfield 29, 3) := by decide +kernel
theorem dX9_play_16 : decode cX9_play 16 = .ok (.aload_n 0, 1) := by decide +kernel
theorem dX9_play_17 : decode cX9_play 17 = .ok (.getfield 16, 3) := by decide +kernel
theorem dX9_play_20 : decode cX9_play 20 = .ok (.invokevirtual 155, 3) := by decide +kernel
theorem dX9_play_23 : decode cX9_play 23 = .ok (.ifCond .eq 13, 3) := by decide +kernel
theorem dX9_play_26 : decode cX9_play 26 = .ok (.aload_n 0, 1) := by decide +kernel
theorem dX9_play_27 : decode cX9_play 27 = .ok (.getfield 29, 3) := by decide +kernel
theorem dX9_play_30 : decode cX9_play 30 = .ok (.getfield 168, 3) := by decide +kernel
theorem dX9_play_33 : decode cX9_play 33 = .ok (.goto 5, 3) := by decide +kernel
theorem dX9_play_36 : decode cX9_play 36 = .ok (.ldc 171, 2) := by decide +kernel
theorem dX9_play_38 : decode cX9_play 38 = .ok (.invokevirtual 41, 3) := by decide +kernel
theorem dX9_play_41 : decode cX9_play 41 = .ok (.ireturn, 1) := by decide +kernel
set_option maxRecDepth 20000 in
theorem ggX9_settle_X2_keep : GoodIn wsX9_settle wsX2_keep := goodIn_r _ [8, 9, 10, 11, 12, 13, 14, 15, 16, 17, 18, 19, 20, 21, 22, 23, 24, 25, 26, 27, 28, 29, 30, 31, 32, 33, 34, 35, 36, 37, 38, 39, 40, 41, 42, 43, 44, 45, 46, 47, 48, 49, 50, 51, 52, 53, 54, 55, 56, 57, 58, 59, 60, 61, 62, 63, 64, 65, 66, 67, 68, 69, 70, 71, 72, 73, 74, 75, 76, 82, 83, 84, 85, 86, 87, 88, 89, 90, 91, 92, 93, 94, 95, 96, 97, 98, 99, 100, 101, 102, 103, 104, 105, 106, 107, 108, 109, 110, 111, 112, 113, 114, 115, 116, 117, 118, 119] (by decide +kernel) (by decide +kernel)
set_option maxRecDepth 20000 in
theorem gX9_settle_X2_keep : GoodIn wsX9_settle (wsV RX9 172 RX2 yX2_keep wsX2_keep) := goodIn_app (goodIn_of _ (by decide +kernel)) ggX9_settle_X2_keep
set_option maxRecDepth 20000 in
theorem ggX9_settle_X6_copyFrom : GoodIn wsX9_settle wsX6_copyFrom := goodIn_r _ [18, 19, 20, 21, 22, 23, 24, 25, 26, 27, 28, 29, 30, 31, 32, 33, 34, 35, 36, 37, 38, 39, 40, 41, 42, 43, 44, 45, 46, 47, 48, 49, 50, 51, 52, 53, 54, 55, 56, 57, 58, 59, 60, 61, 62, 63, 64, 65, 66, 67, 68, 69, 70, 71, 72, 73, 74, 75, 76, 87, 88, 89, 90, 91, 92, 93, 94, 95, 96, 97, 98, 99, 100, 101, 102, 103, 104, 105, 106, 107, 108, 109, 110, 111, 112, 113, 114, 115, 116, 117, 118, 119] (by decide +kernel) (by decide +kernel)
set_option maxRecDepth 20000 in
theorem gX9_settle_X6_copyFrom : GoodIn wsX9_settle (wsV RX9 33 RX6 yX6_copyFrom wsX6_copyFrom) := goodIn_app (goodIn_of _ (by decide +kernel)) ggX9_settle_X6_copyFrom
theorem dX9_settle_0 : decode cX9_settle 0 = .ok (.iload_n 1, 1) := by decide +kernel
theorem dX9_settle_1 : decode cX9_settle 1 = .ok (.ifCond .lt 25, 3) := by decide +kernel
theorem dX9_settle_4 : decode cX9_settle 4 = .ok (.aload_n 0, 1) := by decide +kernel
theorem dX9_settle_5 : decode cX9_settle 5 = .ok (.getfield 22, 3) := by decide +kernel
theorem dX9_settle_8 : decode cX9_settle 8 = .ok (.aload_n 0, 1) := by decide +kernel
theorem dX9_settle_9 : decode cX9_settle 9 = .ok (.getfield 10, 3) := by decide +kernel
theorem dX9_settle_12 : decode cX9_settle 12 = .ok (.invokevirtual 172, 3) := by decide +kernel
theorem dX9_settle_15 : decode cX9_settle 15 = .ok (.aload_n 0, 1) := by decide +kernel
theorem dX9_settle_16 : decode cX9_settle 16 = .ok (.getfield 10, 3) := by decide +kernel
theorem dX9_settle_19 : decode cX9_settle 19 = .ok (.aload_n 0, 1) := by decide +kernel
theorem dX9_settle_20 : decode cX9_settle 20 = .ok (.getfield 16, 3) := by decide +kernel
theorem dX9_settle_23 : decode cX9_settle 23 = .ok (.invokevirtual 33, 3) := by decide +kernel
theorem dX9_settle_26 : decode cX9_settle 26 = .ok (.iload_n 1, 1) := by decide +kernel
theorem dX9_settle_27 : decode cX9_settle 27 = .ok (.ireturn, 1) := by decide +kernel
set_option maxRecDepth 20000 in
theorem ggX9_bitsWithPeriod_X6_copyFrom : GoodIn wsX9_bitsWithPeriod wsX6_copyFrom := goodIn_r _ [11, 12, 13, 14, 15, 16, 17, 18, 19, 20, 21, 22, 23, 24, 25, 26, 27, 28, 29, 30, 31, 32, 33, 34, 35, 36, 37, 38, 39, 40, 41, 42, 43, 44, 45, 46, 47, 48, 49, 50, 51, 52, 53, 54, 55, 56, 57, 58, 59, 60, 61, 62, 63, 64, 65, 66, 67, 68, 69, 176, 177, 178, 179, 180, 181, 182, 183, 184, 185, 186, 187, 190, 191, 192, 193, 194, 195, 196, 197, 198, 199, 200, 188, 189, 201, 202, 203, 204, 205, 206, 207, 208] (by decide +kernel) (by decide +kernel)
set_option maxRecDepth 20000 in
theorem gX9_bitsWithPeriod_X6_copyFrom : GoodIn wsX9_bitsWithPeriod (wsV RX9 33 RX6 yX6_copyFrom wsX6_copyFrom) := goodIn_app (goodIn_of _ (by decide +kernel)) ggX9_bitsWithPeriod_X6_copyFrom
set_option maxRecDepth 20000 in
theorem ggX9_bitsWithPeriod_X6_changeRing : GoodIn wsX9_bitsWithPeriod wsX6_changeRing := goodIn_r _ [73, 74, 75, 76, 77, 78, 79, 80, 81, 82, 83, 10, 84, 12, 13, 185, 186, 187, 176, 177, 178, 179, 180, 181, 182, 183, 184] (by decide +kernel) (by decide +kernel)
set_option maxRecDepth 20000 in
theorem gX9_bitsWithPeriod_X6_changeRing : GoodIn wsX9_bitsWithPeriod (wsV RX9 37 RX6 yX6_changeRing wsX6_changeRing) := goodIn_app (goodIn_of _ (by decide +kernel)) ggX9_bitsWithPeriod_X6_changeRing
set_option maxRecDepth 20000 in
theorem ggX9_bitsWithPeriod_X6_makeSamples : GoodIn wsX9_bitsWithPeriod wsX6_makeSamples := goodIn_r _ [88, 74, 18, 89, 78, 79, 80, 90, 91, 92, 10, 93, 12, 14, 94, 13, 95, 96, 97, 98, 19, 99, 100, 101, 102, 24, 103, 28, 27, 26, 104, 105, 106, 107, 108, 109, 75, 110, 111, 112, 113, 114, 115, 116, 117, 118, 119, 120, 121, 122, 123, 124, 125, 126, 16, 127, 128, 15, 129, 130, 131, 132, 133, 134, 135, 20, 136, 137, 138, 53, 139, 55, 56, 140, 141, 142, 41, 143, 144, 46, 145, 43, 146, 147, 148, 149, 47, 150, 151, 152, 153, 48, 49, 154, 155, 156, 157, 44, 158, 159, 160, 161, 45, 162, 163, 164, 165, 166, 17, 167, 168, 169, 170, 171, 176, 177, 178, 179, 180, 181, 182, 183, 184, 201, 202, 203, 204, 205, 206, 207, 208, 190, 191, 192, 193, 185, 186, 187, 194, 195, 196, 197, 198, 199, 200, 188, 189] (by decide +kernel) (by decide +kernel)
set_option maxRecDepth 20000 in
theorem gX9_bitsWithPeriod_X6_makeSamples : GoodIn wsX9_bitsWithPeriod (wsV RX9 48 RX6 yX6_makeSamples wsX6_makeSamples) := goodIn_app (goodIn_of _ (by decide +kernel)) ggX9_bitsWithPeriod_X6_makeSamples
theorem dX9_bitsWithPeriod_0 : decode cX9_bitsWithPeriod 0 = .ok (.aload_n 0, 1) := by decide +kernel
theorem dX9_bitsWithPeriod_1 : decode cX9_bitsWithPeriod 1 = .ok (.getfield 16, 3) := by decide +kernel
theorem dX9_bitsWithPeriod_4 : decode cX9_bitsWithPeriod 4 = .ok (.aload_n 0, 1) := by decide +kernel
theorem dX9_bitsWithPeriod_5 : decode cX9_bitsWithPeriod 5 = .ok (.getfield 10, 3) := by decide +kernel
theorem dX9_bitsWithPeriod_8 : decode cX9_bitsWithPeriod 8 = .ok (.invokevirtual 33, 3) := by decide +kernel
theorem dX9_bitsWithPeriod_11 : decode cX9_bitsWithPeriod 11 = .ok (.aload_n 0, 1) := by decide +kernel
theorem dX9_bitsWithPeriod_12 : decode cX9_bitsWithPeriod 12 = .ok (.getfield 16, 3) := by decide +kernel
theorem dX9_bitsWithPeriod_15 : decode cX9_bitsWithPeriod 15 = .ok (.iconst 1, 1) := by decide +kernel
theorem dX9_bitsWithPeriod_16 : decode cX9_bitsWithPeriod 16 = .ok (.iload_n 1, 1) := by decide +kernel
theorem dX9_bitsWithPeriod_17 : decode cX9_bitsWithPeriod 17 = .ok (.aload_n 0, 1) := by decide +kernel
theorem dX9_bitsWithPeriod_18 : decode cX9_bitsWithPeriod 18 = .ok (.getfield 16, 3) := by decide +kernel
theorem dX9_bitsWithPeriod_21 : decode cX9_bitsWithPeriod 21 = .ok (.getfield 175, 3) := by decide +kernel
theorem dX9_bitsWithPeriod_24 : decode cX9_bitsWithPeriod 24 = .ok (.getfield 179, 3) := by decide +kernel
theorem dX9_bitsWithPeriod_27 : decode cX9_bitsWithPeriod 27 = .ok (.invokevirtual 37, 3) := by decide +kernel
theorem dX9_bitsWithPeriod_30 : decode cX9_bitsWithPeriod 30 = .ok (.pop, 1) := by decide +kernel
theorem dX9_bitsWithPeriod_31 : decode cX9_bitsWithPeriod 31 = .ok (.aload_n 0, 1) := by decide +kernel
theorem dX9_bitsWithPeriod_32 : decode cX9_bitsWithPeriod 32 = .ok (.getfield 16, 3) := by decide +kernel
theorem dX9_bitsWithPeriod_35 : decode cX9_bitsWithPeriod 35 = .ok (.sipush 200, 3) := by decide +kernel
theorem dX9_bitsWithPeriod_38 : decode cX9_bitsWithPeriod 38 = .ok (.invokevirtual 48, 3) := by decide +kernel
theorem dX9_bitsWithPeriod_41 : decode cX9_bitsWithPeriod 41 = .ok (.pop, 1) := by decide +kernel
theorem dX9_bitsWithPeriod_42 : decode cX9_bitsWithPeriod 42 = .ok (.aload_n 0, 1) := by decide +kernel
theorem dX9_bitsWithPeriod_43 : decode cX9_bitsWithPeriod 43 = .ok (.getfield 16, 3) := by decide +kernel
theorem dX9_bitsWithPeriod_46 : decode cX9_bitsWithPeriod 46 = .ok (.getfield 97, 3) := by decide +kernel
theorem dX9_bitsWithPeriod_49 : decode cX9_bitsWithPeriod 49 = .ok (.getfield 89, 3) := by decide +kernel
theorem dX9_bitsWithPeriod_52 : decode cX9_bitsWithPeriod 52 = .ok (.ireturn, 1) := by decide +kernel
theorem dX9_bitsOfShare_0 : decode cX9_bitsOfShare 0 = .ok (.fload_n 0, 1) := by decide +kernel
theorem dX9_bitsOfShare_1 : decode cX9_bitsOfShare 1 = .ok (.fconst 0, 1) := by decide +kernel
theorem dX9_bitsOfShare_2 : decode cX9_bitsOfShare 2 = .ok (.fcmp .g, 1) := by decide +kernel
theorem dX9_bitsOfShare_3 : decode cX9_bitsOfShare 3 = .ok (.ifCond .gt 5, 3) := by decide +kernel
theorem dX9_bitsOfShare_6 : decode cX9_bitsOfShare 6 = .ok (.iconst 0, 1) := by decide +kernel
theorem dX9_bitsOfShare_7 : decode cX9_bitsOfShare 7 = .ok (.ireturn, 1) := by decide +kernel
theorem dX9_bitsOfShare_8 : decode cX9_bitsOfShare 8 = .ok (.fload_n 0, 1) := by decide +kernel
theorem dX9_bitsOfShare_9 : decode cX9_bitsOfShare 9 = .ok (.fstore_n 1, 1) := by decide +kernel
theorem dX9_bitsOfShare_10 : decode cX9_bitsOfShare 10 = .ok (.bipush 127, 2) := by decide +kernel
theorem dX9_bitsOfShare_12 : decode cX9_bitsOfShare 12 = .ok (.istore_n 2, 1) := by decide +kernel
theorem dX9_bitsOfShare_13 : decode cX9_bitsOfShare 13 = .ok (.iconst 0, 1) := by decide +kernel
theorem dX9_bitsOfShare_14 : decode cX9_bitsOfShare 14 = .ok (.istore_n 3, 1) := by decide +kernel
theorem dX9_bitsOfShare_15 : decode cX9_bitsOfShare 15 = .ok (.iload_n 3, 1) := by decide +kernel
theorem dX9_bitsOfShare_16 : decode cX9_bitsOfShare 16 = .ok (.bipush 126, 2) := by decide +kernel
theorem dX9_bitsOfShare_18 : decode cX9_bitsOfShare 18 = .ok (.if_icmp .ge 22, 3) := by decide +kernel
theorem dX9_bitsOfShare_21 : decode cX9_bitsOfShare 21 = .ok (.fload_n 1, 1) := by decide +kernel
theorem dX9_bitsOfShare_22 : decode cX9_bitsOfShare 22 = .ok (.fconst 1, 1) := by decide +kernel
theorem dX9_bitsOfShare_23 : decode cX9_bitsOfShare 23 = .ok (.fcmp .g, 1) := by decide +kernel
theorem dX9_bitsOfShare_24 : decode cX9_bitsOfShare 24 = .ok (.ifCond .ge 16, 3) := by decide +kernel
theorem dX9_bitsOfShare_27 : decode cX9_bitsOfShare 27 = .ok (.fload_n 1, 1) := by decide +kernel
theorem dX9_bitsOfShare_28 : decode cX9_bitsOfShare 28 = .ok (.fconst 2, 1) := by decide +kernel
theorem dX9_bitsOfShare_29 : decode cX9_bitsOfShare 29 = .ok (.fmul, 1) := by decide +kernel
theorem dX9_bitsOfShare_30 : decode cX9_bitsOfShare 30 = .ok (.fstore_n 1, 1) := by decide +kernel
theorem dX9_bitsOfShare_31 : decode cX9_bitsOfShare 31 = .ok (.iinc 2 (-1), 3) := by decide +kernel
theorem dX9_bitsOfShare_34 : decode cX9_bitsOfShare 34 = .ok (.iinc 3 1, 3) := by decide +kernel
theorem dX9_bitsOfShare_37 : decode cX9_bitsOfShare 37 = .ok (.goto (-22), 3) := by decide +kernel
theorem dX9_bitsOfShare_40 : decode cX9_bitsOfShare 40 = .ok (.iload_n 2, 1) := by decide +kernel
theorem dX9_bitsOfShare_41 : decode cX9_bitsOfShare 41 = .ok (.bipush 23, 2) := by decide +kernel
theorem dX9_bitsOfShare_43 : decode cX9_bitsOfShare 43 = .ok (.ishl, 1) := by decide +kernel
theorem dX9_bitsOfShare_44 : decode cX9_bitsOfShare 44 = .ok (.fload_n 1, 1) := by decide +kernel
theorem dX9_bitsOfShare_45 : decode cX9_bitsOfShare 45 = .ok (.fconst 1, 1) := by decide +kernel
theorem dX9_bitsOfShare_46 : decode cX9_bitsOfShare 46 = .ok (.fsub, 1) := by decide +kernel
theorem dX9_bitsOfShare_47 : decode cX9_bitsOfShare 47 = .ok (.ldc 182, 2) := by decide +kernel
theorem dX9_bitsOfShare_49 : decode cX9_bitsOfShare 49 = .ok (.fmul, 1) := by decide +kernel
theorem dX9_bitsOfShare_50 : decode cX9_bitsOfShare 50 = .ok (.f2i, 1) := by decide +kernel
theorem dX9_bitsOfShare_51 : decode cX9_bitsOfShare 51 = .ok (.iadd, 1) := by decide +kernel
theorem dX9_bitsOfShare_52 : decode cX9_bitsOfShare 52 = .ok (.ireturn, 1) := by decide +kernel
theorem dX9_isWithin_0 : decode cX9_isWithin 0 = .ok (.iload_n 0, 1) := by decide +kernel
theorem dX9_isWithin_1 : decode cX9_isWithin 1 = .ok (.iload_n 1, 1) := by decide +kernel
theorem dX9_isWithin_2 : decode cX9_isWithin 2 = .ok (.if_icmp .lt 12, 3) := by decide +kernel
theorem dX9_isWithin_5 : decode cX9_isWithin 5 = .ok (.iload_n 0, 1) := by decide +kernel
theorem dX9_isWithin_6 : decode cX9_isWithin 6 = .ok (.iload_n 2, 1) := by decide +kernel
theorem dX9_isWithin_7 : decode cX9_isWithin 7 = .ok (.if_icmp .gt 7, 3) := by decide +kernel
theorem dX9_isWithin_10 : decode cX9_isWithin 10 = .ok (.iconst 1, 1) := by decide +kernel
theorem dX9_isWithin_11 : decode cX9_isWithin 11 = .ok (.goto 4, 3) := by decide +kernel
theorem dX9_isWithin_14 : decode cX9_isWithin 14 = .ok (.iconst 0, 1) := by decide +kernel
theorem dX9_isWithin_15 : decode cX9_isWithin 15 = .ok (.ireturn, 1) := by decide +kernel
theorem dX9_remainder_0 : decode cX9_remainder 0 = .ok (.iload_n 1, 1) := by decide +kernel
theorem dX9_remainder_1 : decode cX9_remainder 1 = .ok (.ifCond .le 9, 3) := by decide +kernel
theorem dX9_remainder_4 : decode cX9_remainder 4 = .ok (.iload_n 0, 1) := by decide +kernel
theorem dX9_remainder_5 : decode cX9_remainder 5 = .ok (.iload_n 1, 1) := by decide +kernel
theorem dX9_remainder_6 : decode cX9_remainder 6 = .ok (.irem, 1) := by decide +kernel
theorem dX9_remainder_7 : decode cX9_remainder 7 = .ok (.goto 4, 3) := by decide +kernel
theorem dX9_remainder_10 : decode cX9_remainder 10 = .ok (.iconst 0, 1) := by decide +kernel
theorem dX9_remainder_11 : decode cX9_remainder 11 = .ok (.ireturn, 1) := by decide +kernel
theorem dX10_init_0 : decode cX10_init 0 = .ok (.aload_n 0, 1) := by decide +kernel
theorem dX10_init_1 : decode cX10_init 1 = .ok (.invokespecial 1, 3) := by decide +kernel
theorem dX10_init_4 : decode cX10_init 4 = .ok (.aload_n 0, 1) := by decide +kernel
theorem dX10_init_5 : decode cX10_init 5 = .ok (.sipush 1099, 3) := by decide +kernel
theorem dX10_init_8 : decode cX10_init 8 = .ok (.newarray .int, 2) := by decide +kernel
theorem dX10_init_10 : decode cX10_init 10 = .ok (.putfield 7, 3) := by decide +kernel
theorem dX10_init_13 : decode cX10_init 13 = .ok (.aload_n 0, 1) := by decide +kernel
theorem dX10_init_14 : decode cX10_init 14 = .ok (.bipush 60, 2) := by decide +kernel
theorem dX10_init_16 : decode cX10_init 16 = .ok (.newarray .char, 2) := by decide +kernel
theorem dX10_init_18 : decode cX10_init 18 = .ok (.putfield 13, 3) := by decide +kernel
theorem dX10_init_21 : decode cX10_init 21 = .ok (.aload_n 0, 1) := by decide +kernel
theorem dX10_init_22 : decode cX10_init 22 = .ok (.getfield 7, 3) := by decide +kernel
theorem dX10_init_25 : decode cX10_init 25 = .ok (.iconst 0, 1) := by decide +kernel
theorem dX10_init_26 : decode cX10_init 26 = .ok (.iconst 1, 1) := by decide +kernel
theorem dX10_init_27 : decode cX10_init 27 = .ok (.iastore, 1) := by decide +kernel
theorem dX10_init_28 : decode cX10_init 28 = .ok (.aload_n 0, 1) := by decide +kernel
theorem dX10_init_29 : decode cX10_init 29 = .ok (.getfield 7, 3) := by decide +kernel
theorem dX10_init_32 : decode cX10_init 32 = .ok (.iconst 1, 1) := by decide +kernel
theorem dX10_init_33 : decode cX10_init 33 = .ok (.bipush 100, 2) := by decide +kernel
theorem dX10_init_35 : decode cX10_init 35 = .ok (.iastore, 1) := by decide +kernel
theorem dX10_init_36 : decode cX10_init 36 = .ok (.aload_n 0, 1) := by decide +kernel
theorem dX10_init_37 : decode cX10_init 37 = .ok (.getfield 7, 3) := by decide +kernel
theorem dX10_init_40 : decode cX10_init 40 = .ok (.iconst 2, 1) := by decide +kernel
theorem dX10_init_41 : decode cX10_init 41 = .ok (.sipush 137, 3) := by decide +kernel
theorem dX10_init_44 : decode cX10_init 44 = .ok (.iastore, 1) := by decide +kernel
theorem dX10_init_45 : decode cX10_init 45 = .ok (.aload_n 0, 1) := by decide +kernel
theorem dX10_init_46 : decode cX10_init 46 = .ok (.getfield 7, 3) := by decide +kernel
theorem dX10_init_49 : decode cX10_init 49 = .ok (.iconst 3, 1) := by decide +kernel
theorem dX10_init_50 : decode cX10_init 50 = .ok (.bipush 7, 2) := by decide +kernel
theorem dX10_init_52 : decode cX10_init 52 = .ok (.iastore, 1) := by decide +kernel
theorem dX10_init_53 : decode cX10_init 53 = .ok (.aload_n 0, 1) := by decide +kernel
theorem dX10_init_54 : decode cX10_init 54 = .ok (.getfield 7, 3) := by decide +kernel
theorem dX10_init_57 : decode cX10_init 57 = .ok (.iconst 4, 1) := by decide +kernel
theorem dX10_init_58 : decode cX10_init 58 = .ok (.bipush 7, 2) := by decide +kernel
theorem dX10_init_60 : decode cX10_init 60 = .ok (.iastore, 1) := by decide +kernel
theorem dX10_init_61 : decode cX10_init 61 = .ok (.aload_n 0, 1) := by decide +kernel
theorem dX10_init_62 : decode cX10_init 62 = .ok (.getfield 7, 3) := by decide +kernel
theorem dX10_init_65 : decode cX10_init 65 = .ok (.bipush 7, 2) := by decide +kernel
theorem dX10_init_67 : decode cX10_init 67 = .ok (.bipush 37, 2) := by decide +kernel
theorem dX10_init_69 : decode cX10_init 69 = .ok (.iastore, 1) := by decide +kernel
theorem dX10_init_70 : decode cX10_init 70 = .ok (.aload_n 0, 1) := by decide +kernel
theorem dX10_init_71 : decode cX10_init 71 = .ok (.getfield 7, 3) := by decide +kernel
theorem dX10_init_74 : decode cX10_init 74 = .ok (.bipush 8, 2) := by decide +kernel
theorem dX10_init_76 : decode cX10_init 76 = .ok (.iconst 2, 1) := by decide +kernel
theorem dX10_init_77 : decode cX10_init 77 = .ok (.iastore, 1) := by decide +kernel
theorem dX10_init_78 : decode cX10_init 78 = .ok (.aload_n 0, 1) := by decide +kernel
theorem dX10_init_79 : decode cX10_init 79 = .ok (.getfield 7, 3) := by decide +kernel
theorem dX10_init_82 : decode cX10_init 82 = .ok (.bipush 9, 2) := by decide +kernel
theorem dX10_init_84 : decode cX10_init 84 = .ok (.bipush 12, 2) := by decide +kernel
theorem dX10_init_86 : decode cX10_init 86 = .ok (.iastore, 1) := by decide +kernel
theorem dX10_init_87 : decode cX10_init 87 = .ok (.aload_n 0, 1) := by decide +kernel
theorem dX10_init_88 : decode cX10_init 88 = .ok (.getfield 7, 3) := by decide +kernel
theorem dX10_init_91 : decode cX10_init 91 = .ok (.bipush 10, 2) := by decide +kernel
theorem dX10_init_93 : decode cX10_init 93 = .ok (.bipush 6, 2) := by decide +kernel
theorem dX10_init_95 : decode cX10_init 95 = .ok (.iastore, 1) := by decide +kernel
theorem dX10_init_96 : decode cX10_init 96 = .ok (.aload_n 0, 1) := by decide +kernel
theorem dX10_init_97 : decode cX10_init 97 = .ok (.getfield 7, 3) := by decide +kernel
theorem dX10_init_100 : decode cX10_init 100 = .ok (.bipush 13, 2) := by decide +kernel
theorem dX10_init_102 : decode cX10_init 102 = .ok (.bipush 64, 2) := by decide +kernel
theorem dX10_init_104 : decode cX10_init 104 = .ok (.iastore, 1) := by decide +kernel
theorem dX10_init_105 : decode cX10_init 105 = .ok (.aload_n 0, 1) := by decide +kernel
theorem dX10_init_106 : decode cX10_init 106 = .ok (.getfield 7, 3) := by decide +kernel
theorem dX10_init_109 : decode cX10_init 109 = .ok (.bipush 19, 2) := by decide +kernel
theorem dX10_init_111 : decode cX10_init 111 = .ok (.iconst (-1), 1) := by decide +kernel
theorem dX10_init_112 : decode cX10_init 112 = .ok (.iastore, 1) := by decide +kernel
theorem dX10_init_113 : decode cX10_init 113 = .ok (.return_, 1) := by decide +kernel
theorem dX10_in_0 : decode cX10_in 0 = .ok (.iload_n 0, 1) := by decide +kernel
theorem dX10_in_1 : decode cX10_in 1 = .ok (.iload_n 1, 1) := by decide +kernel
theorem dX10_in_2 : decode cX10_in 2 = .ok (.if_icmp .lt 12, 3) := by decide +kernel
theorem dX10_in_5 : decode cX10_in 5 = .ok (.iload_n 0, 1) := by decide +kernel
theorem dX10_in_6 : decode cX10_in 6 = .ok (.iload_n 2, 1) := by decide +kernel
theorem dX10_in_7 : decode cX10_in 7 = .ok (.if_icmp .gt 7, 3) := by decide +kernel
theorem dX10_in_10 : decode cX10_in 10 = .ok (.iconst 1, 1) := by decide +kernel
theorem dX10_in_11 : decode cX10_in 11 = .ok (.goto 4, 3) := by decide +kernel
theorem dX10_in_14 : decode cX10_in 14 = .ok (.iconst 0, 1) := by decide +kernel
theorem dX10_in_15 : decode cX10_in 15 = .ok (.ireturn, 1) := by decide +kernel
theorem dX10_copies_0 : decode cX10_copies 0 = .ok (.iconst 0, 1) := by decide +kernel
theorem dX10_copies_1 : decode cX10_copies 1 = .ok (.istore_n 3, 1) := by decide +kernel
theorem dX10_copies_2 : decode cX10_copies 2 = .ok (.iload_n 3, 1) := by decide +kernel
theorem dX10_copies_3 : decode cX10_copies 3 = .ok (.sipush 157, 3) := by decide +kernel
theorem dX10_copies_6 : decode cX10_copies 6 = .ok (.if_icmp .ge 33, 3) := by decide +kernel
theorem dX10_copies_9 : decode cX10_copies 9 = .ok (.aload_n 0, 1) := by decide +kernel
theorem dX10_copies_10 : decode cX10_copies 10 = .ok (.getfield 7, 3) := by decide +kernel
theorem dX10_copies_13 : decode cX10_copies 13 = .ok (.sipush 157, 3) := by decide +kernel
theorem dX10_copies_16 : decode cX10_copies 16 = .ok (.iload_n 2, 1) := by decide +kernel
theorem dX10_copies_17 : decode cX10_copies 17 = .ok (.imul, 1) := by decide +kernel
theorem dX10_copies_18 : decode cX10_copies 18 = .ok (.iload_n 3, 1) := by decide +kernel
theorem dX10_copies_19 : decode cX10_copies 19 = .ok (.iadd, 1) := by decide +kernel
theorem dX10_copies_20 : decode cX10_copies 20 = .ok (.aload_n 0, 1) := by decide +kernel
theorem dX10_copies_21 : decode cX10_copies 21 = .ok (.getfield 7, 3) := by decide +kernel
theorem dX10_copies_24 : decode cX10_copies 24 = .ok (.sipush 157, 3) := by decide +kernel
theorem dX10_copies_27 : decode cX10_copies 27 = .ok (.iload_n 1, 1) := by decide +kernel
theorem dX10_copies_28 : decode cX10_copies 28 = .ok (.imul, 1) := by decide +kernel
theorem dX10_copies_29 : decode cX10_copies 29 = .ok (.iload_n 3, 1) := by decide +kernel
theorem dX10_copies_30 : decode cX10_copies 30 = .ok (.iadd, 1) := by decide +kernel
theorem dX10_copies_31 : decode cX10_copies 31 = .ok (.iaload, 1) := by decide +kernel
theorem dX10_copies_32 : decode cX10_copies 32 = .ok (.iastore, 1) := by decide +kernel
theorem dX10_copies_33 : decode cX10_copies 33 = .ok (.iinc 3 1, 3) := by decide +kernel
theorem dX10_copies_36 : decode cX10_copies 36 = .ok (.goto (-34), 3) := by decide +kernel
theorem dX10_copies_39 : decode cX10_copies 39 = .ok (.return_, 1) := by decide +kernel
set_option maxRecDepth 20000 in
theorem ggX10_records_X10_copies : GoodIn wsX10_records wsX10_copies := goodIn_r _ [6, 7, 8, 9, 10, 11, 12, 13, 14, 15, 16] (by decide +kernel) (by decide +kernel)
set_option maxRecDepth 20000 in
theorem gX10_records_X10_copies : GoodIn wsX10_records (wsV RX10 21 RX10 yX10_copies wsX10_copies) := goodIn_app (goodIn_of _ (by decide +kernel)) ggX10_records_X10_copies
theorem dX10_records_0 : decode cX10_records 0 = .ok (.aload_n 0, 1) := by decide +kernel
theorem dX10_records_1 : decode cX10_records 1 = .ok (.getfield 17, 3) := by decide +kernel
theorem dX10_records_4 : decode cX10_records 4 = .ok (.iconst 4, 1) := by decide +kernel
theorem dX10_records_5 : decode cX10_records 5 = .ok (.if_icmp .ne 34, 3) := by decide +kernel
theorem dX10_records_8 : decode cX10_records 8 = .ok (.iconst 1, 1) := by decide +kernel
theorem dX10_records_9 : decode cX10_records 9 = .ok (.istore_n 1, 1) := by decide +kernel
theorem dX10_records_10 : decode cX10_records 10 = .ok (.iload_n 1, 1) := by decide +kernel
theorem dX10_records_11 : decode cX10_records 11 = .ok (.iconst 4, 1) := by decide +kernel
theorem dX10_records_12 : decode cX10_records 12 = .ok (.if_icmp .ge 17, 3) := by decide +kernel
theorem dX10_records_15 : decode cX10_records 15 = .ok (.aload_n 0, 1) := by decide +kernel
theorem dX10_records_16 : decode cX10_records 16 = .ok (.iload_n 1, 1) := by decide +kernel
theorem dX10_records_17 : decode cX10_records 17 = .ok (.iconst 1, 1) := by decide +kernel
theorem dX10_records_18 : decode cX10_records 18 = .ok (.iadd, 1) := by decide +kernel
theorem dX10_records_19 : decode cX10_records 19 = .ok (.iload_n 1, 1) := by decide +kernel
theorem dX10_records_20 : decode cX10_records 20 = .ok (.invokevirtual 21, 3) := by decide +kernel
theorem dX10_records_23 : decode cX10_records 23 = .ok (.iinc 1 1, 3) := by decide +kernel
theorem dX10_records_26 : decode cX10_records 26 = .ok (.goto (-16), 3) := by decide +kernel
theorem dX10_records_29 : decode cX10_records 29 = .ok (.aload_n 0, 1) := by decide +kernel
theorem dX10_records_30 : decode cX10_records 30 = .ok (.dup, 1) := by decide +kernel
theorem dX10_records_31 : decode cX10_records 31 = .ok (.getfield 17, 3) := by decide +kernel
theorem dX10_records_34 : decode cX10_records 34 = .ok (.iconst 1, 1) := by decide +kernel
theorem dX10_records_35 : decode cX10_records 35 = .ok (.isub, 1) := by decide +kernel
theorem dX10_records_36 : decode cX10_records 36 = .ok (.putfield 17, 3) := by decide +kernel
theorem dX10_records_39 : decode cX10_records 39 = .ok (.aload_n 0, 1) := by decide +kernel
theorem dX10_records_40 : decode cX10_records 40 = .ok (.dup, 1) := by decide +kernel
theorem dX10_records_41 : decode cX10_records 41 = .ok (.getfield 17, 3) := by decide +kernel
theorem dX10_records_44 : decode cX10_records 44 = .ok (.iconst 1, 1) := by decide +kernel
