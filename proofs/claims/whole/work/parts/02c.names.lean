theorem dX0_init_0 : decode cX0_init 0 = .ok (.aload_n 0, 1) := by decide +kernel
theorem dX0_init_1 : decode cX0_init 1 = .ok (.invokespecial 1, 3) := by decide +kernel
theorem dX0_init_4 : decode cX0_init 4 = .ok (.aload_n 0, 1) := by decide +kernel
theorem dX0_init_5 : decode cX0_init 5 = .ok (.lconst 0, 1) := by decide +kernel
theorem dX0_init_6 : decode cX0_init 6 = .ok (.putfield 7, 3) := by decide +kernel
theorem dX0_init_9 : decode cX0_init 9 = .ok (.aload_n 0, 1) := by decide +kernel
theorem dX0_init_10 : decode cX0_init 10 = .ok (.iconst 0, 1) := by decide +kernel
theorem dX0_init_11 : decode cX0_init 11 = .ok (.putfield 13, 3) := by decide +kernel
theorem dX0_init_14 : decode cX0_init 14 = .ok (.return_, 1) := by decide +kernel
theorem dX0_copyFrom_0 : decode cX0_copyFrom 0 = .ok (.aload_n 0, 1) := by decide +kernel
theorem dX0_copyFrom_1 : decode cX0_copyFrom 1 = .ok (.aload_n 1, 1) := by decide +kernel
theorem dX0_copyFrom_2 : decode cX0_copyFrom 2 = .ok (.getfield 7, 3) := by decide +kernel
theorem dX0_copyFrom_5 : decode cX0_copyFrom 5 = .ok (.putfield 7, 3) := by decide +kernel
theorem dX0_copyFrom_8 : decode cX0_copyFrom 8 = .ok (.aload_n 0, 1) := by decide +kernel
theorem dX0_copyFrom_9 : decode cX0_copyFrom 9 = .ok (.aload_n 1, 1) := by decide +kernel
theorem dX0_copyFrom_10 : decode cX0_copyFrom 10 = .ok (.getfield 13, 3) := by decide +kernel
theorem dX0_copyFrom_13 : decode cX0_copyFrom 13 = .ok (.putfield 13, 3) := by decide +kernel
theorem dX0_copyFrom_16 : decode cX0_copyFrom 16 = .ok (.return_, 1) := by decide +kernel
theorem dX0_clear_0 : decode cX0_clear 0 = .ok (.aload_n 0, 1) := by decide +kernel
theorem dX0_clear_1 : decode cX0_clear 1 = .ok (.lconst 0, 1) := by decide +kernel
theorem dX0_clear_2 : decode cX0_clear 2 = .ok (.putfield 7, 3) := by decide +kernel
theorem dX0_clear_5 : decode cX0_clear 5 = .ok (.aload_n 0, 1) := by decide +kernel
theorem dX0_clear_6 : decode cX0_clear 6 = .ok (.iconst 0, 1) := by decide +kernel
theorem dX0_clear_7 : decode cX0_clear 7 = .ok (.putfield 13, 3) := by decide +kernel
theorem dX0_clear_10 : decode cX0_clear 10 = .ok (.return_, 1) := by decide +kernel
theorem dX0_isFull_0 : decode cX0_isFull 0 = .ok (.aload_n 0, 1) := by decide +kernel
theorem dX0_isFull_1 : decode cX0_isFull 1 = .ok (.getfield 13, 3) := by decide +kernel
theorem dX0_isFull_4 : decode cX0_isFull 4 = .ok (.bipush 64, 2) := by decide +kernel
theorem dX0_isFull_6 : decode cX0_isFull 6 = .ok (.if_icmp .lt 7, 3) := by decide +kernel
theorem dX0_isFull_9 : decode cX0_isFull 9 = .ok (.iconst 1, 1) := by decide +kernel
theorem dX0_isFull_10 : decode cX0_isFull 10 = .ok (.goto 4, 3) := by decide +kernel
theorem dX0_isFull_13 : decode cX0_isFull 13 = .ok (.iconst 0, 1) := by decide +kernel
theorem dX0_isFull_14 : decode cX0_isFull 14 = .ok (.ireturn, 1) := by decide +kernel
theorem dX0_append_0 : decode cX0_append 0 = .ok (.aload_n 0, 1) := by decide +kernel
theorem dX0_append_1 : decode cX0_append 1 = .ok (.aload_n 0, 1) := by decide +kernel
theorem dX0_append_2 : decode cX0_append 2 = .ok (.getfield 7, 3) := by decide +kernel
theorem dX0_append_5 : decode cX0_append 5 = .ok (.iconst 1, 1) := by decide +kernel
theorem dX0_append_6 : decode cX0_append 6 = .ok (.lshl, 1) := by decide +kernel
theorem dX0_append_7 : decode cX0_append 7 = .ok (.iload_n 1, 1) := by decide +kernel
theorem dX0_append_8 : decode cX0_append 8 = .ok (.i2l, 1) := by decide +kernel
theorem dX0_append_9 : decode cX0_append 9 = .ok (.lor, 1) := by decide +kernel
theorem dX0_append_10 : decode cX0_append 10 = .ok (.putfield 7, 3) := by decide +kernel
theorem dX0_append_13 : decode cX0_append 13 = .ok (.aload_n 0, 1) := by decide +kernel
theorem dX0_append_14 : decode cX0_append 14 = .ok (.getfield 13, 3) := by decide +kernel
theorem dX0_append_17 : decode cX0_append 17 = .ok (.bipush 64, 2) := by decide +kernel
theorem dX0_append_19 : decode cX0_append 19 = .ok (.if_icmp .ge 13, 3) := by decide +kernel
theorem dX0_append_22 : decode cX0_append 22 = .ok (.aload_n 0, 1) := by decide +kernel
theorem dX0_append_23 : decode cX0_append 23 = .ok (.dup, 1) := by decide +kernel
theorem dX0_append_24 : decode cX0_append 24 = .ok (.getfield 13, 3) := by decide +kernel
theorem dX0_append_27 : decode cX0_append 27 = .ok (.iconst 1, 1) := by decide +kernel
theorem dX0_append_28 : decode cX0_append 28 = .ok (.iadd, 1) := by decide +kernel
theorem dX0_append_29 : decode cX0_append 29 = .ok (.putfield 13, 3) := by decide +kernel
theorem dX0_append_32 : decode cX0_append 32 = .ok (.return_, 1) := by decide +kernel
theorem dX0_fromLatest_0 : decode cX0_fromLatest 0 = .ok (.aload_n 0, 1) := by decide +kernel
theorem dX0_fromLatest_1 : decode cX0_fromLatest 1 = .ok (.getfield 7, 3) := by decide +kernel
theorem dX0_fromLatest_4 : decode cX0_fromLatest 4 = .ok (.iload_n 1, 1) := by decide +kernel
theorem dX0_fromLatest_5 : decode cX0_fromLatest 5 = .ok (.lushr, 1) := by decide +kernel
theorem dX0_fromLatest_6 : decode cX0_fromLatest 6 = .ok (.lconst 1, 1) := by decide +kernel
theorem dX0_fromLatest_7 : decode cX0_fromLatest 7 = .ok (.land, 1) := by decide +kernel
theorem dX0_fromLatest_8 : decode cX0_fromLatest 8 = .ok (.l2i, 1) := by decide +kernel
theorem dX0_fromLatest_9 : decode cX0_fromLatest 9 = .ok (.ireturn, 1) := by decide +kernel
set_option maxRecDepth 20000 in
theorem ggX0_fromEarliest_X0_fromLatest : GoodIn wsX0_fromEarliest wsX0_fromLatest := goodIn_r _ [6, 7, 8, 9] (by decide +kernel) (by decide +kernel)
set_option maxRecDepth 20000 in
theorem gX0_fromEarliest_X0_fromLatest : GoodIn wsX0_fromEarliest (wsV RX0 17 RX0 yX0_fromLatest wsX0_fromLatest) := goodIn_app (goodIn_of _ (by decide +kernel)) ggX0_fromEarliest_X0_fromLatest
theorem dX0_fromEarliest_0 : decode cX0_fromEarliest 0 = .ok (.aload_n 0, 1) := by decide +kernel
theorem dX0_fromEarliest_1 : decode cX0_fromEarliest 1 = .ok (.aload_n 0, 1) := by decide +kernel
theorem dX0_fromEarliest_2 : decode cX0_fromEarliest 2 = .ok (.getfield 13, 3) := by decide +kernel
theorem dX0_fromEarliest_5 : decode cX0_fromEarliest 5 = .ok (.iconst 1, 1) := by decide +kernel
theorem dX0_fromEarliest_6 : decode cX0_fromEarliest 6 = .ok (.isub, 1) := by decide +kernel
theorem dX0_fromEarliest_7 : decode cX0_fromEarliest 7 = .ok (.iload_n 1, 1) := by decide +kernel
theorem dX0_fromEarliest_8 : decode cX0_fromEarliest 8 = .ok (.isub, 1) := by decide +kernel
theorem dX0_fromEarliest_9 : decode cX0_fromEarliest 9 = .ok (.invokevirtual 17, 3) := by decide +kernel
theorem dX0_fromEarliest_12 : decode cX0_fromEarliest 12 = .ok (.ireturn, 1) := by decide +kernel
theorem dX0_takeEarliest_0 : decode cX0_takeEarliest 0 = .ok (.aload_n 0, 1) := by decide +kernel
theorem dX0_takeEarliest_1 : decode cX0_takeEarliest 1 = .ok (.getfield 13, 3) := by decide +kernel
theorem dX0_takeEarliest_4 : decode cX0_takeEarliest 4 = .ok (.iload_n 1, 1) := by decide +kernel
theorem dX0_takeEarliest_5 : decode cX0_takeEarliest 5 = .ok (.isub, 1) := by decide +kernel
theorem dX0_takeEarliest_6 : decode cX0_takeEarliest 6 = .ok (.istore_n 2, 1) := by decide +kernel
theorem dX0_takeEarliest_7 : decode cX0_takeEarliest 7 = .ok (.aload_n 0, 1) := by decide +kernel
theorem dX0_takeEarliest_8 : decode cX0_takeEarliest 8 = .ok (.getfield 7, 3) := by decide +kernel
theorem dX0_takeEarliest_11 : decode cX0_takeEarliest 11 = .ok (.iload_n 2, 1) := by decide +kernel
theorem dX0_takeEarliest_12 : decode cX0_takeEarliest 12 = .ok (.lushr, 1) := by decide +kernel
theorem dX0_takeEarliest_13 : decode cX0_takeEarliest 13 = .ok (.l2i, 1) := by decide +kernel
theorem dX0_takeEarliest_14 : decode cX0_takeEarliest 14 = .ok (.istore_n 3, 1) := by decide +kernel
theorem dX0_takeEarliest_15 : decode cX0_takeEarliest 15 = .ok (.aload_n 0, 1) := by decide +kernel
theorem dX0_takeEarliest_16 : decode cX0_takeEarliest 16 = .ok (.aload_n 0, 1) := by decide +kernel
theorem dX0_takeEarliest_17 : decode cX0_takeEarliest 17 = .ok (.getfield 7, 3) := by decide +kernel
theorem dX0_takeEarliest_20 : decode cX0_takeEarliest 20 = .ok (.lconst 1, 1) := by decide +kernel
theorem dX0_takeEarliest_21 : decode cX0_takeEarliest 21 = .ok (.iload_n 2, 1) := by decide +kernel
theorem dX0_takeEarliest_22 : decode cX0_takeEarliest 22 = .ok (.lshl, 1) := by decide +kernel
theorem dX0_takeEarliest_23 : decode cX0_takeEarliest 23 = .ok (.lconst 1, 1) := by decide +kernel
theorem dX0_takeEarliest_24 : decode cX0_takeEarliest 24 = .ok (.lsub, 1) := by decide +kernel
theorem dX0_takeEarliest_25 : decode cX0_takeEarliest 25 = .ok (.land, 1) := by decide +kernel
theorem dX0_takeEarliest_26 : decode cX0_takeEarliest 26 = .ok (.putfield 7, 3) := by decide +kernel
theorem dX0_takeEarliest_29 : decode cX0_takeEarliest 29 = .ok (.aload_n 0, 1) := by decide +kernel
theorem dX0_takeEarliest_30 : decode cX0_takeEarliest 30 = .ok (.iload_n 2, 1) := by decide +kernel
theorem dX0_takeEarliest_31 : decode cX0_takeEarliest 31 = .ok (.putfield 13, 3) := by decide +kernel
theorem dX0_takeEarliest_34 : decode cX0_takeEarliest 34 = .ok (.iload_n 3, 1) := by decide +kernel
theorem dX0_takeEarliest_35 : decode cX0_takeEarliest 35 = .ok (.ireturn, 1) := by decide +kernel
set_option maxRecDepth 20000 in
theorem ggX0_ones_J13_bitCount_95d88 : GoodIn wsX0_ones wsJ13_bitCount_95d88 := goodIn_r _ [5, 6, 7, 8] (by decide +kernel) (by decide +kernel)
set_option maxRecDepth 20000 in
theorem gX0_ones_J13_bitCount_95d88 : GoodIn wsX0_ones (va_wsS RX0 21 yJ13_bitCount_95d88 wsJ13_bitCount_95d88) := goodIn_app (goodIn_of _ (by decide +kernel)) ggX0_ones_J13_bitCount_95d88
theorem dX0_ones_0 : decode cX0_ones 0 = .ok (.aload_n 0, 1) := by decide +kernel
theorem dX0_ones_1 : decode cX0_ones 1 = .ok (.getfield 7, 3) := by decide +kernel
theorem dX0_ones_4 : decode cX0_ones 4 = .ok (.invokestatic 21, 3) := by decide +kernel
theorem dX0_ones_7 : decode cX0_ones 7 = .ok (.ireturn, 1) := by decide +kernel
theorem dX1_init_0 : decode cX1_init 0 = .ok (.aload_n 0, 1) := by decide +kernel
theorem dX1_init_1 : decode cX1_init 1 = .ok (.invokespecial 1, 3) := by decide +kernel
theorem dX1_init_4 : decode cX1_init 4 = .ok (.aload_n 0, 1) := by decide +kernel
theorem dX1_init_5 : decode cX1_init 5 = .ok (.iconst 0, 1) := by decide +kernel
theorem dX1_init_6 : decode cX1_init 6 = .ok (.putfield 9, 3) := by decide +kernel
theorem dX1_init_9 : decode cX1_init 9 = .ok (.aload_n 0, 1) := by decide +kernel
theorem dX1_init_10 : decode cX1_init 10 = .ok (.iconst 0, 1) := by decide +kernel
theorem dX1_init_11 : decode cX1_init 11 = .ok (.putfield 13, 3) := by decide +kernel
theorem dX1_init_14 : decode cX1_init 14 = .ok (.aload_n 0, 1) := by decide +kernel
theorem dX1_init_15 : decode cX1_init 15 = .ok (.iconst 0, 1) := by decide +kernel
theorem dX1_init_16 : decode cX1_init 16 = .ok (.putfield 16, 3) := by decide +kernel
theorem dX1_init_19 : decode cX1_init 19 = .ok (.aload_n 0, 1) := by decide +kernel
theorem dX1_init_20 : decode cX1_init 20 = .ok (.iconst 0, 1) := by decide +kernel
theorem dX1_init_21 : decode cX1_init 21 = .ok (.putfield 19, 3) := by decide +kernel
theorem dX1_init_24 : decode cX1_init 24 = .ok (.aload_n 0, 1) := by decide +kernel
theorem dX1_init_25 : decode cX1_init 25 = .ok (.iconst 0, 1) := by decide +kernel
theorem dX1_init_26 : decode cX1_init 26 = .ok (.putfield 22, 3) := by decide +kernel
theorem dX1_init_29 : decode cX1_init 29 = .ok (.aload_n 0, 1) := by decide +kernel
theorem dX1_init_30 : decode cX1_init 30 = .ok (.iconst 0, 1) := by decide +kernel
theorem dX1_init_31 : decode cX1_init 31 = .ok (.putfield 25, 3) := by decide +kernel
theorem dX1_init_34 : decode cX1_init 34 = .ok (.aload_n 0, 1) := by decide +kernel
theorem dX1_init_35 : decode cX1_init 35 = .ok (.iconst 0, 1) := by decide +kernel
theorem dX1_init_36 : decode cX1_init 36 = .ok (.putfield 28, 3) := by decide +kernel
theorem dX1_init_39 : decode cX1_init 39 = .ok (.return_, 1) := by decide +kernel
theorem dX1_copyFrom_0 : decode cX1_copyFrom 0 = .ok (.aload_n 0, 1) := by decide +kernel
theorem dX1_copyFrom_1 : decode cX1_copyFrom 1 = .ok (.aload_n 1, 1) := by decide +kernel
theorem dX1_copyFrom_2 : decode cX1_copyFrom 2 = .ok (.getfield 9, 3) := by decide +kernel
theorem dX1_copyFrom_5 : decode cX1_copyFrom 5 = .ok (.putfield 9, 3) := by decide +kernel
theorem dX1_copyFrom_8 : decode cX1_copyFrom 8 = .ok (.aload_n 0, 1) := by decide +kernel
theorem dX1_copyFrom_9 : decode cX1_copyFrom 9 = .ok (.aload_n 1, 1) := by decide +kernel
theorem dX1_copyFrom_10 : decode cX1_copyFrom 10 = .ok (.getfield 13, 3) := by decide +kernel
theorem dX1_copyFrom_13 : decode cX1_copyFrom 13 = .ok (.putfield 13, 3) := by decide +kernel
theorem dX1_copyFrom_16 : decode cX1_copyFrom 16 = .ok (.aload_n 0, 1) := by decide +kernel
theorem dX1_copyFrom_17 : decode cX1_copyFrom 17 = .ok (.aload_n 1, 1) := by decide +kernel
theorem dX1_copyFrom_18 : decode cX1_copyFrom 18 = .ok (.getfield 16, 3) := by decide +kernel
theorem dX1_copyFrom_21 : decode cX1_copyFrom 21 = .ok (.putfield 16, 3) := by decide +kernel
theorem dX1_copyFrom_24 : decode cX1_copyFrom 24 = .ok (.aload_n 0, 1) := by decide +kernel
theorem dX1_copyFrom_25 : decode cX1_copyFrom 25 = .ok (.aload_n 1, 1) := by decide +kernel
theorem dX1_copyFrom_26 : decode cX1_copyFrom 26 = .ok (.getfield 19, 3) := by decide +kernel
theorem dX1_copyFrom_29 : decode cX1_copyFrom 29 = .ok (.putfield 19, 3) := by decide +kernel
theorem dX1_copyFrom_32 : decode cX1_copyFrom 32 = .ok (.aload_n 0, 1) := by decide +kernel
theorem dX1_copyFrom_33 : decode cX1_copyFrom 33 = .ok (.aload_n 1, 1) := by decide +kernel
theorem dX1_copyFrom_34 : decode cX1_copyFrom 34 = .ok (.getfield 22, 3) := by decide +kernel
theorem dX1_copyFrom_37 : decode cX1_copyFrom 37 = .ok (.putfield 22, 3) := by decide +kernel
theorem dX1_copyFrom_40 : decode cX1_copyFrom 40 = .ok (.aload_n 0, 1) := by decide +kernel
theorem dX1_copyFrom_41 : decode cX1_copyFrom 41 = .ok (.aload_n 1, 1) := by decide +kernel
theorem dX1_copyFrom_42 : decode cX1_copyFrom 42 = .ok (.getfield 25, 3) := by decide +kernel
theorem dX1_copyFrom_45 : decode cX1_copyFrom 45 = .ok (.putfield 25, 3) := by decide +kernel
theorem dX1_copyFrom_48 : decode cX1_copyFrom 48 = .ok (.aload_n 0, 1) := by decide +kernel
theorem dX1_copyFrom_49 : decode cX1_copyFrom 49 = .ok (.aload_n 1, 1) := by decide +kernel
theorem dX1_copyFrom_50 : decode cX1_copyFrom 50 = .ok (.getfield 28, 3) := by decide +kernel
theorem dX1_copyFrom_53 : decode cX1_copyFrom 53 = .ok (.putfield 28, 3) := by decide +kernel
theorem dX1_copyFrom_56 : decode cX1_copyFrom 56 = .ok (.return_, 1) := by decide +kernel
theorem dX1_startAnew_0 : decode cX1_startAnew 0 = .ok (.aload_n 0, 1) := by decide +kernel
theorem dX1_startAnew_1 : decode cX1_startAnew 1 = .ok (.iconst 0, 1) := by decide +kernel
theorem dX1_startAnew_2 : decode cX1_startAnew 2 = .ok (.putfield 9, 3) := by decide +kernel
theorem dX1_startAnew_5 : decode cX1_startAnew 5 = .ok (.aload_n 0, 1) := by decide +kernel
theorem dX1_startAnew_6 : decode cX1_startAnew 6 = .ok (.iconst 0, 1) := by decide +kernel
theorem dX1_startAnew_7 : decode cX1_startAnew 7 = .ok (.putfield 13, 3) := by decide +kernel
theorem dX1_startAnew_10 : decode cX1_startAnew 10 = .ok (.aload_n 0, 1) := by decide +kernel
theorem dX1_startAnew_11 : decode cX1_startAnew 11 = .ok (.iconst 0, 1) := by decide +kernel
theorem dX1_startAnew_12 : decode cX1_startAnew 12 = .ok (.putfield 16, 3) := by decide +kernel
theorem dX1_startAnew_15 : decode cX1_startAnew 15 = .ok (.aload_n 0, 1) := by decide +kernel
theorem dX1_startAnew_16 : decode cX1_startAnew 16 = .ok (.iconst 0, 1) := by decide +kernel
theorem dX1_startAnew_17 : decode cX1_startAnew 17 = .ok (.putfield 19, 3) := by decide +kernel
theorem dX1_startAnew_20 : decode cX1_startAnew 20 = .ok (.aload_n 0, 1) := by decide +kernel
theorem dX1_startAnew_21 : decode cX1_startAnew 21 = .ok (.iconst 0, 1) := by decide +kernel
theorem dX1_startAnew_22 : decode cX1_startAnew 22 = .ok (.putfield 22, 3) := by decide +kernel
theorem dX1_startAnew_25 : decode cX1_startAnew 25 = .ok (.aload_n 0, 1) := by decide +kernel
theorem dX1_startAnew_26 : decode cX1_startAnew 26 = .ok (.iconst 0, 1) := by decide +kernel
theorem dX1_startAnew_27 : decode cX1_startAnew 27 = .ok (.putfield 25, 3) := by decide +kernel
theorem dX1_startAnew_30 : decode cX1_startAnew 30 = .ok (.aload_n 0, 1) := by decide +kernel
theorem dX1_startAnew_31 : decode cX1_startAnew 31 = .ok (.iconst 0, 1) := by decide +kernel
theorem dX1_startAnew_32 : decode cX1_startAnew 32 = .ok (.putfield 28, 3) := by decide +kernel
theorem dX1_startAnew_35 : decode cX1_startAnew 35 = .ok (.return_, 1) := by decide +kernel
set_option maxRecDepth 20000 in
theorem ggX1_judge_X1_countInRun : GoodIn wsX1_judge wsX1_countInRun := goodIn_r _ [9, 2, 10, 31, 32, 33, 34, 35, 36, 37] (by decide +kernel) (by decide +kernel)
set_option maxRecDepth 20000 in
theorem gX1_judge_X1_countInRun : GoodIn wsX1_judge (wsV RX1 31 RX1 yX1_countInRun wsX1_countInRun) := goodIn_app (goodIn_of _ (by decide +kernel)) ggX1_judge_X1_countInRun
set_option maxRecDepth 20000 in
theorem ggX1_judge_X1_failsShare : GoodIn wsX1_judge wsX1_failsShare := goodIn_r _ [14, 15, 16, 31, 32, 33, 34, 35, 36, 37] (by decide +kernel) (by decide +kernel)
set_option maxRecDepth 20000 in
theorem gX1_judge_X1_failsShare : GoodIn wsX1_judge (wsV RX1 40 RX1 yX1_failsShare wsX1_failsShare) := goodIn_app (goodIn_of _ (by decide +kernel)) ggX1_judge_X1_failsShare
set_option maxRecDepth 20000 in
theorem ggX1_judge_X1_bringAlarm : GoodIn wsX1_judge wsX1_bringAlarm := goodIn_r _ [20, 4, 21, 31, 32, 33, 34, 35, 36, 37] (by decide +kernel) (by decide +kernel)
set_option maxRecDepth 20000 in
theorem gX1_judge_X1_bringAlarm : GoodIn wsX1_judge (wsV RX1 47 RX1 yX1_bringAlarm wsX1_bringAlarm) := goodIn_app (goodIn_of _ (by decide +kernel)) ggX1_judge_X1_bringAlarm
set_option maxRecDepth 20000 in
theorem ggX1_judge_X1_countInStartUp : GoodIn wsX1_judge wsX1_countInStartUp := goodIn_r _ [25, 26, 4, 31, 32, 33, 34, 35, 36, 37] (by decide +kernel) (by decide +kernel)
set_option maxRecDepth 20000 in
theorem gX1_judge_X1_countInStartUp : GoodIn wsX1_judge (wsV RX1 50 RX1 yX1_countInStartUp wsX1_countInStartUp) := goodIn_app (goodIn_of _ (by decide +kernel)) ggX1_judge_X1_countInStartUp
theorem dX1_judge_0 : decode cX1_judge 0 = .ok (.aload_n 0, 1) := by decide +kernel
theorem dX1_judge_1 : decode cX1_judge 1 = .ok (.iload_n 1, 1) := by decide +kernel
theorem dX1_judge_2 : decode cX1_judge 2 = .ok (.invokevirtual 31, 3) := by decide +kernel
theorem dX1_judge_5 : decode cX1_judge 5 = .ok (.aload_n 0, 1) := by decide +kernel
theorem dX1_judge_6 : decode cX1_judge 6 = .ok (.iload_n 1, 1) := by decide +kernel
theorem dX1_judge_7 : decode cX1_judge 7 = .ok (.aload_n 2, 1) := by decide +kernel
theorem dX1_judge_8 : decode cX1_judge 8 = .ok (.getfield 35, 3) := by decide +kernel
theorem dX1_judge_11 : decode cX1_judge 11 = .ok (.invokevirtual 40, 3) := by decide +kernel
theorem dX1_judge_14 : decode cX1_judge 14 = .ok (.istore_n 3, 1) := by decide +kernel
theorem dX1_judge_15 : decode cX1_judge 15 = .ok (.aload_n 0, 1) := by decide +kernel
theorem dX1_judge_16 : decode cX1_judge 16 = .ok (.getfield 19, 3) := by decide +kernel
theorem dX1_judge_19 : decode cX1_judge 19 = .ok (.aload_n 2, 1) := by decide +kernel
theorem dX1_judge_20 : decode cX1_judge 20 = .ok (.getfield 44, 3) := by decide +kernel
theorem dX1_judge_23 : decode cX1_judge 23 = .ok (.if_icmp .le 11, 3) := by decide +kernel
theorem dX1_judge_26 : decode cX1_judge 26 = .ok (.aload_n 0, 1) := by decide +kernel
theorem dX1_judge_27 : decode cX1_judge 27 = .ok (.iconst 1, 1) := by decide +kernel
theorem dX1_judge_28 : decode cX1_judge 28 = .ok (.invokevirtual 47, 3) := by decide +kernel
theorem dX1_judge_31 : decode cX1_judge 31 = .ok (.goto 26, 3) := by decide +kernel
theorem dX1_judge_34 : decode cX1_judge 34 = .ok (.iload_n 3, 1) := by decide +kernel
theorem dX1_judge_35 : decode cX1_judge 35 = .ok (.ifCond .eq 11, 3) := by decide +kernel
theorem dX1_judge_38 : decode cX1_judge 38 = .ok (.aload_n 0, 1) := by decide +kernel
theorem dX1_judge_39 : decode cX1_judge 39 = .ok (.iconst 2, 1) := by decide +kernel
theorem dX1_judge_40 : decode cX1_judge 40 = .ok (.invokevirtual 47, 3) := by decide +kernel
theorem dX1_judge_43 : decode cX1_judge 43 = .ok (.goto 14, 3) := by decide +kernel
theorem dX1_judge_46 : decode cX1_judge 46 = .ok (.aload_n 0, 1) := by decide +kernel
theorem dX1_judge_47 : decode cX1_judge 47 = .ok (.getfield 9, 3) := by decide +kernel
theorem dX1_judge_50 : decode cX1_judge 50 = .ok (.ifCond .ne 7, 3) := by decide +kernel
theorem dX1_judge_53 : decode cX1_judge 53 = .ok (.aload_n 0, 1) := by decide +kernel
theorem dX1_judge_54 : decode cX1_judge 54 = .ok (.invokevirtual 50, 3) := by decide +kernel
theorem dX1_judge_57 : decode cX1_judge 57 = .ok (.return_, 1) := by decide +kernel
theorem dX1_countInRun_0 : decode cX1_countInRun 0 = .ok (.aload_n 0, 1) := by decide +kernel
theorem dX1_countInRun_1 : decode cX1_countInRun 1 = .ok (.aload_n 0, 1) := by decide +kernel
theorem dX1_countInRun_2 : decode cX1_countInRun 2 = .ok (.getfield 19, 3) := by decide +kernel
theorem dX1_countInRun_5 : decode cX1_countInRun 5 = .ok (.ifCond .le 20, 3) := by decide +kernel
theorem dX1_countInRun_8 : decode cX1_countInRun 8 = .ok (.iload_n 1, 1) := by decide +kernel
theorem dX1_countInRun_9 : decode cX1_countInRun 9 = .ok (.aload_n 0, 1) := by decide +kernel
theorem dX1_countInRun_10 : decode cX1_countInRun 10 = .ok (.getfield 22, 3) := by decide +kernel
theorem dX1_countInRun_13 : decode cX1_countInRun 13 = .ok (.if_icmp .ne 12, 3) := by decide +kernel
theorem dX1_countInRun_16 : decode cX1_countInRun 16 = .ok (.aload_n 0, 1) := by decide +kernel
theorem dX1_countInRun_17 : decode cX1_countInRun 17 = .ok (.getfield 19, 3) := by decide +kernel
theorem dX1_countInRun_20 : decode cX1_countInRun 20 = .ok (.iconst 1, 1) := by decide +kernel
theorem dX1_countInRun_21 : decode cX1_countInRun 21 = .ok (.iadd, 1) := by decide +kernel
theorem dX1_countInRun_22 : decode cX1_countInRun 22 = .ok (.goto 4, 3) := by decide +kernel
theorem dX1_countInRun_25 : decode cX1_countInRun 25 = .ok (.iconst 1, 1) := by decide +kernel
theorem dX1_countInRun_26 : decode cX1_countInRun 26 = .ok (.putfield 19, 3) := by decide +kernel
theorem dX1_countInRun_29 : decode cX1_countInRun 29 = .ok (.aload_n 0, 1) := by decide +kernel
theorem dX1_countInRun_30 : decode cX1_countInRun 30 = .ok (.iload_n 1, 1) := by decide +kernel
theorem dX1_countInRun_31 : decode cX1_countInRun 31 = .ok (.putfield 22, 3) := by decide +kernel
theorem dX1_countInRun_34 : decode cX1_countInRun 34 = .ok (.return_, 1) := by decide +kernel
theorem dX1_failsShare_0 : decode cX1_failsShare 0 = .ok (.aload_n 0, 1) := by decide +kernel
theorem dX1_failsShare_1 : decode cX1_failsShare 1 = .ok (.dup, 1) := by decide +kernel
theorem dX1_failsShare_2 : decode cX1_failsShare 2 = .ok (.getfield 25, 3) := by decide +kernel
theorem dX1_failsShare_5 : decode cX1_failsShare 5 = .ok (.iconst 1, 1) := by decide +kernel
theorem dX1_failsShare_6 : decode cX1_failsShare 6 = .ok (.iadd, 1) := by decide +kernel
theorem dX1_failsShare_7 : decode cX1_failsShare 7 = .ok (.putfield 25, 3) := by decide +kernel
theorem dX1_failsShare_10 : decode cX1_failsShare 10 = .ok (.aload_n 0, 1) := by decide +kernel
theorem dX1_failsShare_11 : decode cX1_failsShare 11 = .ok (.dup, 1) := by decide +kernel
theorem dX1_failsShare_12 : decode cX1_failsShare 12 = .ok (.getfield 28, 3) := by decide +kernel
theorem dX1_failsShare_15 : decode cX1_failsShare 15 = .ok (.iload_n 1, 1) := by decide +kernel
theorem dX1_failsShare_16 : decode cX1_failsShare 16 = .ok (.iadd, 1) := by decide +kernel
theorem dX1_failsShare_17 : decode cX1_failsShare 17 = .ok (.putfield 28, 3) := by decide +kernel
theorem dX1_failsShare_20 : decode cX1_failsShare 20 = .ok (.aload_n 0, 1) := by decide +kernel
theorem dX1_failsShare_21 : decode cX1_failsShare 21 = .ok (.getfield 25, 3) := by decide +kernel
theorem dX1_failsShare_24 : decode cX1_failsShare 24 = .ok (.bipush 32, 2) := by decide +kernel
theorem dX1_failsShare_26 : decode cX1_failsShare 26 = .ok (.if_icmp .ge 5, 3) := by decide +kernel
theorem dX1_failsShare_29 : decode cX1_failsShare 29 = .ok (.iconst 0, 1) := by decide +kernel
theorem dX1_failsShare_30 : decode cX1_failsShare 30 = .ok (.ireturn, 1) := by decide +kernel
theorem dX1_failsShare_31 : decode cX1_failsShare 31 = .ok (.aload_n 0, 1) := by decide +kernel
theorem dX1_failsShare_32 : decode cX1_failsShare 32 = .ok (.getfield 28, 3) := by decide +kernel
theorem dX1_failsShare_35 : decode cX1_failsShare 35 = .ok (.istore_n 3, 1) := by decide +kernel
theorem dX1_failsShare_36 : decode cX1_failsShare 36 = .ok (.aload_n 0, 1) := by decide +kernel
theorem dX1_failsShare_37 : decode cX1_failsShare 37 = .ok (.iconst 0, 1) := by decide +kernel
theorem dX1_failsShare_38 : decode cX1_failsShare 38 = .ok (.putfield 25, 3) := by decide +kernel
theorem dX1_failsShare_41 : decode cX1_failsShare 41 = .ok (.aload_n 0, 1) := by decide +kernel
theorem dX1_failsShare_42 : decode cX1_failsShare 42 = .ok (.iconst 0, 1) := by decide +kernel
theorem dX1_failsShare_43 : decode cX1_failsShare 43 = .ok (.putfield 28, 3) := by decide +kernel
theorem dX1_failsShare_46 : decode cX1_failsShare 46 = .ok (.iload_n 3, 1) := by decide +kernel
theorem dX1_failsShare_47 : decode cX1_failsShare 47 = .ok (.iload_n 2, 1) := by decide +kernel
theorem dX1_failsShare_48 : decode cX1_failsShare 48 = .ok (.if_icmp .lt 11, 3) := by decide +kernel
theorem dX1_failsShare_51 : decode cX1_failsShare 51 = .ok (.iload_n 3, 1) := by decide +kernel
theorem dX1_failsShare_52 : decode cX1_failsShare 52 = .ok (.bipush 32, 2) := by decide +kernel
theorem dX1_failsShare_54 : decode cX1_failsShare 54 = .ok (.iload_n 2, 1) := by decide +kernel
theorem dX1_failsShare_55 : decode cX1_failsShare 55 = .ok (.isub, 1) := by decide +kernel
theorem dX1_failsShare_56 : decode cX1_failsShare 56 = .ok (.if_icmp .le 7, 3) := by decide +kernel
theorem dX1_failsShare_59 : decode cX1_failsShare 59 = .ok (.iconst 1, 1) := by decide +kernel
theorem dX1_failsShare_60 : decode cX1_failsShare 60 = .ok (.goto 4, 3) := by decide +kernel
theorem dX1_failsShare_63 : decode cX1_failsShare 63 = .ok (.iconst 0, 1) := by decide +kernel
theorem dX1_failsShare_64 : decode cX1_failsShare 64 = .ok (.ireturn, 1) := by decide +kernel
theorem dX1_bringAlarm_0 : decode cX1_bringAlarm 0 = .ok (.aload_n 0, 1) := by decide +kernel
theorem dX1_bringAlarm_1 : decode cX1_bringAlarm 1 = .ok (.iconst 2, 1) := by decide +kernel
theorem dX1_bringAlarm_2 : decode cX1_bringAlarm 2 = .ok (.putfield 9, 3) := by decide +kernel
theorem dX1_bringAlarm_5 : decode cX1_bringAlarm 5 = .ok (.aload_n 0, 1) := by decide +kernel
theorem dX1_bringAlarm_6 : decode cX1_bringAlarm 6 = .ok (.iload_n 1, 1) := by decide +kernel
theorem dX1_bringAlarm_7 : decode cX1_bringAlarm 7 = .ok (.putfield 13, 3) := by decide +kernel
theorem dX1_bringAlarm_10 : decode cX1_bringAlarm 10 = .ok (.return_, 1) := by decide +kernel
theorem dX1_countInStartUp_0 : decode cX1_countInStartUp 0 = .ok (.aload_n 0, 1) := by decide +kernel
theorem dX1_countInStartUp_1 : decode cX1_countInStartUp 1 = .ok (.dup, 1) := by decide +kernel
theorem dX1_countInStartUp_2 : decode cX1_countInStartUp 2 = .ok (.getfield 16, 3) := by decide +kernel
theorem dX1_countInStartUp_5 : decode cX1_countInStartUp 5 = .ok (.iconst 1, 1) := by decide +kernel
theorem dX1_countInStartUp_6 : decode cX1_countInStartUp 6 = .ok (.iadd, 1) := by decide +kernel
theorem dX1_countInStartUp_7 : decode cX1_countInStartUp 7 = .ok (.putfield 16, 3) := by decide +kernel
theorem dX1_countInStartUp_10 : decode cX1_countInStartUp 10 = .ok (.aload_n 0, 1) := by decide +kernel
theorem dX1_countInStartUp_11 : decode cX1_countInStartUp 11 = .ok (.getfield 16, 3) := by decide +kernel
theorem dX1_countInStartUp_14 : decode cX1_countInStartUp 14 = .ok (.bipush 64, 2) := by decide +kernel
theorem dX1_countInStartUp_16 : decode cX1_countInStartUp 16 = .ok (.if_icmp .lt 8, 3) := by decide +kernel
theorem dX1_countInStartUp_19 : decode cX1_countInStartUp 19 = .ok (.aload_n 0, 1) := by decide +kernel
theorem dX1_countInStartUp_20 : decode cX1_countInStartUp 20 = .ok (.iconst 1, 1) := by decide +kernel
theorem dX1_countInStartUp_21 : decode cX1_countInStartUp 21 = .ok (.putfield 9, 3) := by decide +kernel
theorem dX1_countInStartUp_24 : decode cX1_countInStartUp 24 = .ok (.return_, 1) := by decide +kernel
set_option maxRecDepth 20000 in
theorem ggX2_init_X6_init : GoodIn wsX2_init wsX6_init := goodIn_r _ [14, 15, 2, 3, 16, 17, 18, 19, 20, 21, 22, 23, 24, 25, 26, 27, 28, 29, 30, 31, 32, 33, 34, 35, 36, 37, 38, 39, 40, 41, 42, 43, 44, 45, 46, 47, 48, 49, 50, 51, 52, 53, 54, 55, 56, 57, 58, 59, 60, 61, 62, 63, 64, 65, 66, 67, 68, 69, 70, 71, 72, 73, 74, 75, 76, 77, 78, 79, 85, 86, 87, 88, 89, 90, 91, 92, 93, 94, 95, 96, 97, 98, 99, 100, 101, 102, 103, 104, 105, 106, 107, 108, 109, 110, 111, 112, 113, 114, 115, 116, 117] (by decide +kernel) (by decide +kernel)
set_option maxRecDepth 20000 in
theorem gX2_init_X6_init : GoodIn wsX2_init (wsX6_init) := ggX2_init_X6_init
theorem dX2_init_0 : decode cX2_init 0 = .ok (.aload_n 0, 1) := by decide +kernel
theorem dX2_init_1 : decode cX2_init 1 = .ok (.invokespecial 3, 3) := by decide +kernel
theorem dX2_init_4 : decode cX2_init 4 = .ok (.aload_n 0, 1) := by decide +kernel
theorem dX2_init_5 : decode cX2_init 5 = .ok (.iconst 0, 1) := by decide +kernel
theorem dX2_init_6 : decode cX2_init 6 = .ok (.putfield 9, 3) := by decide +kernel
theorem dX2_init_9 : decode cX2_init 9 = .ok (.aload_n 0, 1) := by decide +kernel
theorem dX2_init_10 : decode cX2_init 10 = .ok (.new 15, 3) := by decide +kernel
theorem dX2_init_13 : decode cX2_init 13 = .ok (.dup, 1) := by decide +kernel
theorem dX2_init_14 : decode cX2_init 14 = .ok (.invokespecial 17, 3) := by decide +kernel
theorem dX2_init_17 : decode cX2_init 17 = .ok (.putfield 18, 3) := by decide +kernel
theorem dX2_init_20 : decode cX2_init 20 = .ok (.aload_n 0, 1) := by decide +kernel
theorem dX2_init_21 : decode cX2_init 21 = .ok (.new 15, 3) := by decide +kernel
theorem dX2_init_24 : decode cX2_init 24 = .ok (.dup, 1) := by decide +kernel
theorem dX2_init_25 : decode cX2_init 25 = .ok (.invokespecial 17, 3) := by decide +kernel
theorem dX2_init_28 : decode cX2_init 28 = .ok (.putfield 22, 3) := by decide +kernel
theorem dX2_init_31 : decode cX2_init 31 = .ok (.aload_n 0, 1) := by decide +kernel
theorem dX2_init_32 : decode cX2_init 32 = .ok (.new 15, 3) := by decide +kernel
theorem dX2_init_35 : decode cX2_init 35 = .ok (.dup, 1) := by decide +kernel
theorem dX2_init_36 : decode cX2_init 36 = .ok (.invokespecial 17, 3) := by decide +kernel
theorem dX2_init_39 : decode cX2_init 39 = .ok (.putfield 25, 3) := by decide +kernel
theorem dX2_init_42 : decode cX2_init 42 = .ok (.aload_n 0, 1) := by decide +kernel
theorem dX2_init_43 : decode cX2_init 43 = .ok (.new 15, 3) := by decide +kernel
theorem dX2_init_46 : decode cX2_init 46 = .ok (.dup, 1) := by decide +kernel
theorem dX2_init_47 : decode cX2_init 47 = .ok (.invokespecial 17, 3) := by decide +kernel
theorem dX2_init_50 : decode cX2_init 50 = .ok (.putfield 28, 3) := by decide +kernel
theorem dX2_init_53 : decode cX2_init 53 = .ok (.return_, 1) := by decide +kernel
set_option maxRecDepth 20000 in
theorem ggX2_keep_X6_copyFrom : GoodIn wsX2_keep wsX6_copyFrom := goodIn_r _ [10, 11, 12, 13, 14, 15, 16, 17, 18, 19, 20, 21, 22, 23, 24, 25, 26, 27, 28, 29, 30, 31, 32, 33, 34, 35, 36, 37, 38, 39, 40, 41, 42, 43, 44, 45, 46, 47, 48, 49, 50, 51, 52, 53, 54, 55, 56, 57, 58, 59, 60, 61, 62, 63, 64, 65, 66, 67, 68, 74, 75, 76, 77, 78, 79, 80, 81, 82, 83, 84, 85, 86, 87, 88, 89, 90, 91, 92, 93, 94, 95, 96, 97, 98, 99, 100, 101, 102, 103, 104, 105, 106] (by decide +kernel) (by decide +kernel)
set_option maxRecDepth 20000 in
theorem gX2_keep_X6_copyFrom : GoodIn wsX2_keep (wsV RX2 31 RX6 yX6_copyFrom wsX6_copyFrom) := goodIn_app (goodIn_of _ (by decide +kernel)) ggX2_keep_X6_copyFrom
theorem dX2_keep_0 : decode cX2_keep 0 = .ok (.aload_n 0, 1) := by decide +kernel
theorem dX2_keep_1 : decode cX2_keep 1 = .ok (.getfield 28, 3) := by decide +kernel
theorem dX2_keep_4 : decode cX2_keep 4 = .ok (.aload_n 0, 1) := by decide +kernel
theorem dX2_keep_5 : decode cX2_keep 5 = .ok (.getfield 25, 3) := by decide +kernel
theorem dX2_keep_8 : decode cX2_keep 8 = .ok (.invokevirtual 31, 3) := by decide +kernel
theorem dX2_keep_11 : decode cX2_keep 11 = .ok (.aload_n 0, 1) := by decide +kernel
theorem dX2_keep_12 : decode cX2_keep 12 = .ok (.getfield 25, 3) := by decide +kernel
theorem dX2_keep_15 : decode cX2_keep 15 = .ok (.aload_n 0, 1) := by decide +kernel
theorem dX2_keep_16 : decode cX2_keep 16 = .ok (.getfield 22, 3) := by decide +kernel
theorem dX2_keep_19 : decode cX2_keep 19 = .ok (.invokevirtual 31, 3) := by decide +kernel
theorem dX2_keep_22 : decode cX2_keep 22 = .ok (.aload_n 0, 1) := by decide +kernel
theorem dX2_keep_23 : decode cX2_keep 23 = .ok (.getfield 22, 3) := by decide +kernel
theorem dX2_keep_26 : decode cX2_keep 26 = .ok (.aload_n 0, 1) := by decide +kernel
theorem dX2_keep_27 : decode cX2_keep 27 = .ok (.getfield 18, 3) := by decide +kernel
theorem dX2_keep_30 : decode cX2_keep 30 = .ok (.invokevirtual 31, 3) := by decide +kernel
theorem dX2_keep_33 : decode cX2_keep 33 = .ok (.aload_n 0, 1) := by decide +kernel
theorem dX2_keep_34 : decode cX2_keep 34 = .ok (.getfield 18, 3) := by decide +kernel
theorem dX2_keep_37 : decode cX2_keep 37 = .ok (.aload_n 1, 1) := by decide +kernel
theorem dX2_keep_38 : decode cX2_keep 38 = .ok (.invokevirtual 31, 3) := by decide +kernel
theorem dX2_keep_41 : decode cX2_keep 41 = .ok (.aload_n 0, 1) := by decide +kernel
theorem dX2_keep_42 : decode cX2_keep 42 = .ok (.getfield 9, 3) := by decide +kernel
theorem dX2_keep_45 : decode cX2_keep 45 = .ok (.iconst 4, 1) := by decide +kernel
theorem dX2_keep_46 : decode cX2_keep 46 = .ok (.if_icmp .ge 13, 3) := by decide +kernel
theorem dX2_keep_49 : decode cX2_keep 49 = .ok (.aload_n 0, 1) := by decide +kernel
theorem dX2_keep_50 : decode cX2_keep 50 = .ok (.dup, 1) := by decide +kernel
theorem dX2_keep_51 : decode cX2_keep 51 = .ok (.getfield 9, 3) := by decide +kernel
theorem dX2_keep_54 : decode cX2_keep 54 = .ok (.iconst 1, 1) := by decide +kernel
theorem dX2_keep_55 : decode cX2_keep 55 = .ok (.iadd, 1) := by decide +kernel
theorem dX2_keep_56 : decode cX2_keep 56 = .ok (.putfield 9, 3) := by decide +kernel
theorem dX2_keep_59 : decode cX2_keep 59 = .ok (.return_, 1) := by decide +kernel
set_option maxRecDepth 20000 in
theorem ggX2_bringBack_X6_copyFrom : GoodIn wsX2_bringBack wsX6_copyFrom := goodIn_r _ [11, 12, 13, 14, 15, 16, 17, 18, 19, 20, 21, 22, 23, 24, 25, 26, 27, 28, 29, 30, 31, 32, 33, 34, 35, 36, 37, 38, 39, 40, 41, 42, 43, 44, 45, 46, 47, 48, 49, 50, 51, 52, 53, 54, 55, 56, 57, 58, 59, 60, 61, 62, 63, 64, 65, 66, 67, 68, 69, 75, 76, 77, 78, 79, 80, 81, 82, 83, 84, 85, 86, 87, 88, 89, 90, 91, 92, 93, 94, 95, 96, 97, 98, 99, 100, 101, 102, 103, 104, 105, 106, 107] (by decide +kernel) (by decide +kernel)
set_option maxRecDepth 20000 in
theorem gX2_bringBack_X6_copyFrom : GoodIn wsX2_bringBack (wsV RX2 31 RX6 yX6_copyFrom wsX6_copyFrom) := goodIn_app (goodIn_of _ (by decide +kernel)) ggX2_bringBack_X6_copyFrom
theorem dX2_bringBack_0 : decode cX2_bringBack 0 = .ok (.aload_n 0, 1) := by decide +kernel
theorem dX2_bringBack_1 : decode cX2_bringBack 1 = .ok (.getfield 9, 3) := by decide +kernel
theorem dX2_bringBack_4 : decode cX2_bringBack 4 = .ok (.ifCond .gt 6, 3) := by decide +kernel
theorem dX2_bringBack_7 : decode cX2_bringBack 7 = .ok (.ldc 35, 2) := by decide +kernel
theorem dX2_bringBack_9 : decode cX2_bringBack 9 = .ok (.ireturn, 1) := by decide +kernel
theorem dX2_bringBack_10 : decode cX2_bringBack 10 = .ok (.aload_n 1, 1) := by decide +kernel
theorem dX2_bringBack_11 : decode cX2_bringBack 11 = .ok (.aload_n 0, 1) := by decide +kernel
theorem dX2_bringBack_12 : decode cX2_bringBack 12 = .ok (.getfield 18, 3) := by decide +kernel
theorem dX2_bringBack_15 : decode cX2_bringBack 15 = .ok (.invokevirtual 31, 3) := by decide +kernel
theorem dX2_bringBack_18 : decode cX2_bringBack 18 = .ok (.aload_n 0, 1) := by decide +kernel
theorem dX2_bringBack_19 : decode cX2_bringBack 19 = .ok (.getfield 18, 3) := by decide +kernel
theorem dX2_bringBack_22 : decode cX2_bringBack 22 = .ok (.aload_n 0, 1) := by decide +kernel
theorem dX2_bringBack_23 : decode cX2_bringBack 23 = .ok (.getfield 22, 3) := by decide +kernel
theorem dX2_bringBack_26 : decode cX2_bringBack 26 = .ok (.invokevirtual 31, 3) := by decide +kernel
theorem dX2_bringBack_29 : decode cX2_bringBack 29 = .ok (.aload_n 0, 1) := by decide +kernel
theorem dX2_bringBack_30 : decode cX2_bringBack 30 = .ok (.getfield 22, 3) := by decide +kernel
theorem dX2_bringBack_33 : decode cX2_bringBack 33 = .ok (.aload_n 0, 1) := by decide +kernel
theorem dX2_bringBack_34 : decode cX2_bringBack 34 = .ok (.getfield 25, 3) := by decide +kernel
theorem dX2_bringBack_37 : decode cX2_bringBack 37 = .ok (.invokevirtual 31, 3) := by decide +kernel
theorem dX2_bringBack_40 : decode cX2_bringBack 40 = .ok (.aload_n 0, 1) := by decide +kernel
theorem dX2_bringBack_41 : decode cX2_bringBack 41 = .ok (.getfield 25, 3) := by decide +kernel
theorem dX2_bringBack_44 : decode cX2_bringBack 44 = .ok (.aload_n 0, 1) := by decide +kernel
theorem dX2_bringBack_45 : decode cX2_bringBack 45 = .ok (.getfield 28, 3) := by decide +kernel
theorem dX2_bringBack_48 : decode cX2_bringBack 48 = .ok (.invokevirtual 31, 3) := by decide +kernel
theorem dX2_bringBack_51 : decode cX2_bringBack 51 = .ok (.aload_n 0, 1) := by decide +kernel
theorem dX2_bringBack_52 : decode cX2_bringBack 52 = .ok (.dup, 1) := by decide +kernel
theorem dX2_bringBack_53 : decode cX2_bringBack 53 = .ok (.getfield 9, 3) := by decide +kernel
theorem dX2_bringBack_56 : decode cX2_bringBack 56 = .ok (.iconst 1, 1) := by decide +kernel
theorem dX2_bringBack_57 : decode cX2_bringBack 57 = .ok (.isub, 1) := by decide +kernel
theorem dX2_bringBack_58 : decode cX2_bringBack 58 = .ok (.putfield 9, 3) := by decide +kernel
theorem dX2_bringBack_61 : decode cX2_bringBack 61 = .ok (.aload_n 0, 1) := by decide +kernel
theorem dX2_bringBack_62 : decode cX2_bringBack 62 = .ok (.getfield 9, 3) := by decide +kernel
theorem dX2_bringBack_65 : decode cX2_bringBack 65 = .ok (.ireturn, 1) := by decide +kernel
set_option maxRecDepth 20000 in
theorem ggX3_init_X8_init : GoodIn wsX3_init wsX8_init := goodIn_r _ [18, 19, 2, 3, 20, 21, 22, 33, 34] (by decide +kernel) (by decide +kernel)
set_option maxRecDepth 20000 in
theorem gX3_init_X8_init_n39 : GoodIn wsX3_init (wsX8_init) := ggX3_init_X8_init
theorem dX3_init_0 : decode cX3_init 0 = .ok (.aload_n 0, 1) := by decide +kernel
theorem dX3_init_1 : decode cX3_init 1 = .ok (.invokespecial 1, 3) := by decide +kernel
theorem dX3_init_4 : decode cX3_init 4 = .ok (.aload_n 0, 1) := by decide +kernel
theorem dX3_init_5 : decode cX3_init 5 = .ok (.iconst 0, 1) := by decide +kernel
theorem dX3_init_6 : decode cX3_init 6 = .ok (.putfield 7, 3) := by decide +kernel
theorem dX3_init_9 : decode cX3_init 9 = .ok (.aload_n 0, 1) := by decide +kernel
theorem dX3_init_10 : decode cX3_init 10 = .ok (.iconst 0, 1) := by decide +kernel
theorem dX3_init_11 : decode cX3_init 11 = .ok (.putfield 13, 3) := by decide +kernel
theorem dX3_init_14 : decode cX3_init 14 = .ok (.aload_n 0, 1) := by decide +kernel
theorem dX3_init_15 : decode cX3_init 15 = .ok (.iconst 0, 1) := by decide +kernel
theorem dX3_init_16 : decode cX3_init 16 = .ok (.putfield 16, 3) := by decide +kernel
theorem dX3_init_19 : decode cX3_init 19 = .ok (.aload_n 0, 1) := by decide +kernel
theorem dX3_init_20 : decode cX3_init 20 = .ok (.iconst 0, 1) := by decide +kernel
theorem dX3_init_21 : decode cX3_init 21 = .ok (.putfield 19, 3) := by decide +kernel
theorem dX3_init_24 : decode cX3_init 24 = .ok (.aload_n 0, 1) := by decide +kernel
theorem dX3_init_25 : decode cX3_init 25 = .ok (.iconst 0, 1) := by decide +kernel
theorem dX3_init_26 : decode cX3_init 26 = .ok (.putfield 22, 3) := by decide +kernel
theorem dX3_init_29 : decode cX3_init 29 = .ok (.aload_n 0, 1) := by decide +kernel
theorem dX3_init_30 : decode cX3_init 30 = .ok (.iconst 0, 1) := by decide +kernel
theorem dX3_init_31 : decode cX3_init 31 = .ok (.putfield 27, 3) := by decide +kernel
theorem dX3_init_34 : decode cX3_init 34 = .ok (.aload_n 0, 1) := by decide +kernel
theorem dX3_init_35 : decode cX3_init 35 = .ok (.iconst 0, 1) := by decide +kernel
theorem dX3_init_36 : decode cX3_init 36 = .ok (.putfield 30, 3) := by decide +kernel
theorem dX3_init_39 : decode cX3_init 39 = .ok (.aload_n 0, 1) := by decide +kernel
theorem dX3_init_40 : decode cX3_init 40 = .ok (.iconst 0, 1) := by decide +kernel
theorem dX3_init_41 : decode cX3_init 41 = .ok (.putfield 33, 3) := by decide +kernel
theorem dX3_init_44 : decode cX3_init 44 = .ok (.aload_n 0, 1) := by decide +kernel
theorem dX3_init_45 : decode cX3_init 45 = .ok (.iconst 0, 1) := by decide +kernel
theorem dX3_init_46 : decode cX3_init 46 = .ok (.putfield 36, 3) := by decide +kernel
theorem dX3_init_49 : decode cX3_init 49 = .ok (.aload_n 0, 1) := by decide +kernel
theorem dX3_init_50 : decode cX3_init 50 = .ok (.new 25, 3) := by decide +kernel
theorem dX3_init_53 : decode cX3_init 53 = .ok (.dup, 1) := by decide +kernel
theorem dX3_init_54 : decode cX3_init 54 = .ok (.invokespecial 39, 3) := by decide +kernel
theorem dX3_init_57 : decode cX3_init 57 = .ok (.putfield 40, 3) := by decide +kernel
theorem dX3_init_60 : decode cX3_init 60 = .ok (.return_, 1) := by decide +kernel
set_option maxRecDepth 20000 in
theorem ggX3_areDoneOn_X3_isRead : GoodIn wsX3_areDoneOn wsX3_isRead := goodIn_r _ [12, 3, 1, 13, 14, 15, 16, 17, 18, 19, 20, 21, 22, 23, 24, 25, 26, 27, 28, 29, 30, 11, 31, 32, 33, 34, 35, 36, 37, 38, 39, 40, 41, 42, 198, 199, 200, 201, 202, 203, 204, 205, 206, 207, 208, 209] (by decide +kernel) (by decide +kernel)
set_option maxRecDepth 20000 in
theorem gX3_areDoneOn_X3_isRead : GoodIn wsX3_areDoneOn (wsV RX3 47 RX3 yX3_isRead wsX3_isRead) := goodIn_app (goodIn_of _ (by decide +kernel)) ggX3_areDoneOn_X3_isRead
set_option maxRecDepth 20000 in
theorem ggX3_areDoneOn_X3_doOn : GoodIn wsX3_areDoneOn wsX3_doOn := goodIn_r _ [46, 13, 41, 42, 36, 47, 48, 49, 50, 51, 52, 53, 54, 55, 25, 26, 27, 56, 57, 58, 59, 60, 61, 62, 63, 64, 65, 66, 67, 68, 69, 70, 71, 72, 73, 74, 75, 76, 77, 78, 79, 80, 81, 82, 83, 84, 85, 86, 87, 88, 89, 90, 91, 92, 93, 94, 95, 23, 96, 97, 98, 99, 100, 101, 102, 103, 104, 105, 106, 107, 108, 109, 110, 111, 112, 113, 114, 115, 116, 117, 118, 119, 120, 121, 122, 123, 124, 125, 126, 127, 128, 129, 130, 131, 132, 133, 134, 135, 136, 137, 138, 139, 140, 141, 142, 143, 144, 145, 146, 147, 148, 149, 150, 151, 152, 153, 154, 155, 156, 157, 158, 159, 160, 161, 162, 163, 164, 165, 166, 167, 168, 169, 170, 171, 172, 173, 174, 175, 176, 177, 178, 179, 180, 181, 182, 183, 184, 185, 186, 187, 188, 189, 190, 191, 192, 193, 194, 195, 196, 197, 198, 199, 200, 201, 202, 203, 204, 205, 206, 207, 210, 211, 212, 213, 214, 215, 216, 217, 218, 219, 220, 221, 222, 223, 224, 225, 226, 227, 228, 229, 230, 231, 232, 233, 234, 235, 236, 237, 238, 239, 240, 241, 242] (by decide +kernel) (by decide +kernel)
set_option maxRecDepth 20000 in
theorem gX3_areDoneOn_X3_doOn : GoodIn wsX3_areDoneOn (wsV RX3 51 RX3 yX3_doOn wsX3_doOn) := goodIn_app (goodIn_of _ (by decide +kernel)) ggX3_areDoneOn_X3_doOn
theorem dX3_areDoneOn_0 : decode cX3_areDoneOn 0 = .ok (.aload_n 0, 1) := by decide +kernel
theorem dX3_areDoneOn_1 : decode cX3_areDoneOn 1 = .ok (.iconst 0, 1) := by decide +kernel
theorem dX3_areDoneOn_2 : decode cX3_areDoneOn 2 = .ok (.putfield 13, 3) := by decide +kernel
theorem dX3_areDoneOn_5 : decode cX3_areDoneOn 5 = .ok (.aload_n 0, 1) := by decide +kernel
theorem dX3_areDoneOn_6 : decode cX3_areDoneOn 6 = .ok (.iconst 0, 1) := by decide +kernel
theorem dX3_areDoneOn_7 : decode cX3_areDoneOn 7 = .ok (.putfield 16, 3) := by decide +kernel
theorem dX3_areDoneOn_10 : decode cX3_areDoneOn 10 = .ok (.aload_n 0, 1) := by decide +kernel
theorem dX3_areDoneOn_11 : decode cX3_areDoneOn 11 = .ok (.getfield 16, 3) := by decide +kernel
theorem dX3_areDoneOn_14 : decode cX3_areDoneOn 14 = .ok (.bipush 60, 2) := by decide +kernel
theorem dX3_areDoneOn_16 : decode cX3_areDoneOn 16 = .ok (.if_icmp .ge 87, 3) := by decide +kernel
theorem dX3_areDoneOn_19 : decode cX3_areDoneOn 19 = .ok (.aload_n 0, 1) := by decide +kernel
theorem dX3_areDoneOn_20 : decode cX3_areDoneOn 20 = .ok (.getfield 13, 3) := by decide +kernel
theorem dX3_areDoneOn_23 : decode cX3_areDoneOn 23 = .ok (.aload_n 0, 1) := by decide +kernel
theorem dX3_areDoneOn_24 : decode cX3_areDoneOn 24 = .ok (.getfield 40, 3) := by decide +kernel
theorem dX3_areDoneOn_27 : decode cX3_areDoneOn 27 = .ok (.getfield 44, 3) := by decide +kernel
theorem dX3_areDoneOn_30 : decode cX3_areDoneOn 30 = .ok (.if_icmp .ge 73, 3) := by decide +kernel
theorem dX3_areDoneOn_33 : decode cX3_areDoneOn 33 = .ok (.aload_n 0, 1) := by decide +kernel
theorem dX3_areDoneOn_34 : decode cX3_areDoneOn 34 = .ok (.aload_n 0, 1) := by decide +kernel
theorem dX3_areDoneOn_35 : decode cX3_areDoneOn 35 = .ok (.getfield 13, 3) := by decide +kernel
theorem dX3_areDoneOn_38 : decode cX3_areDoneOn 38 = .ok (.putfield 7, 3) := by decide +kernel
theorem dX3_areDoneOn_41 : decode cX3_areDoneOn 41 = .ok (.aload_n 0, 1) := by decide +kernel
theorem dX3_areDoneOn_42 : decode cX3_areDoneOn 42 = .ok (.invokevirtual 47, 3) := by decide +kernel
theorem dX3_areDoneOn_45 : decode cX3_areDoneOn 45 = .ok (.ifCond .ne 23, 3) := by decide +kernel
theorem dX3_areDoneOn_48 : decode cX3_areDoneOn 48 = .ok (.aload_n 0, 1) := by decide +kernel
theorem dX3_areDoneOn_49 : decode cX3_areDoneOn 49 = .ok (.iconst 1, 1) := by decide +kernel
theorem dX3_areDoneOn_50 : decode cX3_areDoneOn 50 = .ok (.putfield 19, 3) := by decide +kernel
theorem dX3_areDoneOn_53 : decode cX3_areDoneOn 53 = .ok (.aload_n 0, 1) := by decide +kernel
theorem dX3_areDoneOn_54 : decode cX3_areDoneOn 54 = .ok (.aload_n 0, 1) := by decide +kernel
theorem dX3_areDoneOn_55 : decode cX3_areDoneOn 55 = .ok (.getfield 13, 3) := by decide +kernel
theorem dX3_areDoneOn_58 : decode cX3_areDoneOn 58 = .ok (.aload_n 0, 1) := by decide +kernel
theorem dX3_areDoneOn_59 : decode cX3_areDoneOn 59 = .ok (.getfield 7, 3) := by decide +kernel
theorem dX3_areDoneOn_62 : decode cX3_areDoneOn 62 = .ok (.isub, 1) := by decide +kernel
theorem dX3_areDoneOn_63 : decode cX3_areDoneOn 63 = .ok (.putfield 22, 3) := by decide +kernel
theorem dX3_areDoneOn_66 : decode cX3_areDoneOn 66 = .ok (.iconst 0, 1) := by decide +kernel
theorem dX3_areDoneOn_67 : decode cX3_areDoneOn 67 = .ok (.ireturn, 1) := by decide +kernel
theorem dX3_areDoneOn_68 : decode cX3_areDoneOn 68 = .ok (.aload_n 0, 1) := by decide +kernel
theorem dX3_areDoneOn_69 : decode cX3_areDoneOn 69 = .ok (.aload_n 1, 1) := by decide +kernel
theorem dX3_areDoneOn_70 : decode cX3_areDoneOn 70 = .ok (.invokevirtual 51, 3) := by decide +kernel
theorem dX3_areDoneOn_73 : decode cX3_areDoneOn 73 = .ok (.istore_n 2, 1) := by decide +kernel
theorem dX3_areDoneOn_74 : decode cX3_areDoneOn 74 = .ok (.iload_n 2, 1) := by decide +kernel
theorem dX3_areDoneOn_75 : decode cX3_areDoneOn 75 = .ok (.ifCond .ge 15, 3) := by decide +kernel
theorem dX3_areDoneOn_78 : decode cX3_areDoneOn 78 = .ok (.aload_n 0, 1) := by decide +kernel
theorem dX3_areDoneOn_79 : decode cX3_areDoneOn 79 = .ok (.iconst 2, 1) := by decide +kernel
theorem dX3_areDoneOn_80 : decode cX3_areDoneOn 80 = .ok (.putfield 19, 3) := by decide +kernel
theorem dX3_areDoneOn_83 : decode cX3_areDoneOn 83 = .ok (.aload_n 0, 1) := by decide +kernel
theorem dX3_areDoneOn_84 : decode cX3_areDoneOn 84 = .ok (.iload_n 2, 1) := by decide +kernel
theorem dX3_areDoneOn_85 : decode cX3_areDoneOn 85 = .ok (.putfield 22, 3) := by decide +kernel
theorem dX3_areDoneOn_88 : decode cX3_areDoneOn 88 = .ok (.iconst 0, 1) := by decide +kernel
theorem dX3_areDoneOn_89 : decode cX3_areDoneOn 89 = .ok (.ireturn, 1) := by decide +kernel
theorem dX3_areDoneOn_90 : decode cX3_areDoneOn 90 = .ok (.aload_n 0, 1) := by decide +kernel
theorem dX3_areDoneOn_91 : decode cX3_areDoneOn 91 = .ok (.dup, 1) := by decide +kernel
theorem dX3_areDoneOn_92 : decode cX3_areDoneOn 92 = .ok (.getfield 16, 3) := by decide +kernel
theorem dX3_areDoneOn_95 : decode cX3_areDoneOn 95 = .ok (.iconst 1, 1) := by decide +kernel
theorem dX3_areDoneOn_96 : decode cX3_areDoneOn 96 = .ok (.iadd, 1) := by decide +kernel
theorem dX3_areDoneOn_97 : decode cX3_areDoneOn 97 = .ok (.putfield 16, 3) := by decide +kernel
theorem dX3_areDoneOn_100 : decode cX3_areDoneOn 100 = .ok (.goto (-90), 3) := by decide +kernel
theorem dX3_areDoneOn_103 : decode cX3_areDoneOn 103 = .ok (.iconst 1, 1) := by decide +kernel
theorem dX3_areDoneOn_104 : decode cX3_areDoneOn 104 = .ok (.ireturn, 1) := by decide +kernel
set_option maxRecDepth 20000 in
theorem ggX3_isRead_X8_at : GoodIn wsX3_isRead wsX8_at := goodIn_r _ [8, 9, 10, 11, 12, 13, 14, 15, 16, 17, 44, 45] (by decide +kernel) (by decide +kernel)
set_option maxRecDepth 20000 in
theorem gX3_isRead_X8_at : GoodIn wsX3_isRead (wsV RX3 55 RX8 yX8_at wsX8_at) := goodIn_app (goodIn_of _ (by decide +kernel)) ggX3_isRead_X8_at
set_option maxRecDepth 20000 in
theorem ggX3_isRead_X3_isSkipped : GoodIn wsX3_isRead wsX3_isSkipped := goodIn_r _ [22, 1, 2, 4, 5, 6, 7, 8, 9, 10, 11, 12, 13, 14, 15, 16, 17, 34, 35, 36, 37, 38, 39, 40, 41, 42, 43, 44, 45] (by decide +kernel) (by decide +kernel)
set_option maxRecDepth 20000 in
theorem gX3_isRead_X3_isSkipped : GoodIn wsX3_isRead (wsV RX3 59 RX3 yX3_isSkipped wsX3_isSkipped) := goodIn_app (goodIn_of _ (by decide +kernel)) ggX3_isRead_X3_isSkipped
set_option maxRecDepth 20000 in
theorem ggX3_isRead_X3_isNumberRead : GoodIn wsX3_isRead wsX3_isNumberRead := goodIn_r _ [26, 27, 2, 1, 4, 5, 6, 7, 8, 9, 10, 11, 12, 13, 14, 15, 16, 17, 34, 35, 36, 37, 38, 39, 40, 41, 42, 43, 44, 45] (by decide +kernel) (by decide +kernel)
set_option maxRecDepth 20000 in
theorem gX3_isRead_X3_isNumberRead : GoodIn wsX3_isRead (wsV RX3 63 RX3 yX3_isNumberRead wsX3_isNumberRead) := goodIn_app (goodIn_of _ (by decide +kernel)) ggX3_isRead_X3_isNumberRead
set_option maxRecDepth 20000 in
theorem ggX3_isRead_X3_areRingNumbersRead : GoodIn wsX3_isRead wsX3_areRingNumbersRead := goodIn_r _ [31, 27, 32, 33, 23, 24, 25, 21, 26, 2, 1, 4, 5, 6, 7, 8, 9, 10, 11, 12, 13, 14, 15, 16, 17, 18, 19, 20, 22, 34, 35, 36, 37, 38, 39, 40, 41, 42, 43, 44, 45] (by decide +kernel) (by decide +kernel)
set_option maxRecDepth 20000 in
theorem gX3_isRead_X3_areRingNumbersRead : GoodIn wsX3_isRead (wsV RX3 66 RX3 yX3_areRingNumbersRead wsX3_areRingNumbersRead) := goodIn_app (goodIn_of _ (by decide +kernel)) ggX3_isRead_X3_areRingNumbersRead
theorem dX3_isRead_0 : decode cX3_isRead 0 = .ok (.aload_n 0, 1) := by decide +kernel
theorem dX3_isRead_1 : decode cX3_isRead 1 = .ok (.aload_n 0, 1) := by decide +kernel
theorem dX3_isRead_2 : decode cX3_isRead 2 = .ok (.getfield 40, 3) := by decide +kernel
theorem dX3_isRead_5 : decode cX3_isRead 5 = .ok (.aload_n 0, 1) := by decide +kernel
theorem dX3_isRead_6 : decode cX3_isRead 6 = .ok (.getfield 13, 3) := by decide +kernel
theorem dX3_isRead_9 : decode cX3_isRead 9 = .ok (.invokevirtual 55, 3) := by decide +kernel
theorem dX3_isRead_12 : decode cX3_isRead 12 = .ok (.putfield 27, 3) := by decide +kernel
theorem dX3_isRead_15 : decode cX3_isRead 15 = .ok (.aload_n 0, 1) := by decide +kernel
theorem dX3_isRead_16 : decode cX3_isRead 16 = .ok (.getfield 27, 3) := by decide +kernel
theorem dX3_isRead_19 : decode cX3_isRead 19 = .ok (.lookupswitch 130 #[(100, 66), (110, 49), (114, 98), (115, 66), (120, 66)], 49) := by decide +kernel
theorem dX3_isRead_68 : decode cX3_isRead 68 = .ok (.aload_n 0, 1) := by decide +kernel
theorem dX3_isRead_69 : decode cX3_isRead 69 = .ok (.dup, 1) := by decide +kernel
theorem dX3_isRead_70 : decode cX3_isRead 70 = .ok (.getfield 13, 3) := by decide +kernel
theorem dX3_isRead_73 : decode cX3_isRead 73 = .ok (.iconst 1, 1) := by decide +kernel
theorem dX3_isRead_74 : decode cX3_isRead 74 = .ok (.iadd, 1) := by decide +kernel
theorem dX3_isRead_75 : decode cX3_isRead 75 = .ok (.putfield 13, 3) := by decide +kernel
theorem dX3_isRead_78 : decode cX3_isRead 78 = .ok (.aload_n 0, 1) := by decide +kernel
theorem dX3_isRead_79 : decode cX3_isRead 79 = .ok (.bipush 59, 2) := by decide +kernel
theorem dX3_isRead_81 : decode cX3_isRead 81 = .ok (.invokevirtual 59, 3) := by decide +kernel
theorem dX3_isRead_84 : decode cX3_isRead 84 = .ok (.ireturn, 1) := by decide +kernel
theorem dX3_isRead_85 : decode cX3_isRead 85 = .ok (.aload_n 0, 1) := by decide +kernel
theorem dX3_isRead_86 : decode cX3_isRead 86 = .ok (.dup, 1) := by decide +kernel
theorem dX3_isRead_87 : decode cX3_isRead 87 = .ok (.getfield 13, 3) := by decide +kernel
theorem dX3_isRead_90 : decode cX3_isRead 90 = .ok (.iconst 1, 1) := by decide +kernel
theorem dX3_isRead_91 : decode cX3_isRead 91 = .ok (.iadd, 1) := by decide +kernel
theorem dX3_isRead_92 : decode cX3_isRead 92 = .ok (.putfield 13, 3) := by decide +kernel
theorem dX3_isRead_95 : decode cX3_isRead 95 = .ok (.aload_n 0, 1) := by decide +kernel
theorem dX3_isRead_96 : decode cX3_isRead 96 = .ok (.invokevirtual 63, 3) := by decide +kernel
theorem dX3_isRead_99 : decode cX3_isRead 99 = .ok (.ifCond .eq 16, 3) := by decide +kernel
theorem dX3_isRead_102 : decode cX3_isRead 102 = .ok (.aload_n 0, 1) := by decide +kernel
theorem dX3_isRead_103 : decode cX3_isRead 103 = .ok (.bipush 59, 2) := by decide +kernel
theorem dX3_isRead_105 : decode cX3_isRead 105 = .ok (.invokevirtual 59, 3) := by decide +kernel
theorem dX3_isRead_108 : decode cX3_isRead 108 = .ok (.ifCond .eq 7, 3) := by decide +kernel
theorem dX3_isRead_111 : decode cX3_isRead 111 = .ok (.iconst 1, 1) := by decide +kernel
theorem dX3_isRead_112 : decode cX3_isRead 112 = .ok (.goto 4, 3) := by decide +kernel
theorem dX3_isRead_115 : decode cX3_isRead 115 = .ok (.iconst 0, 1) := by decide +kernel
theorem dX3_isRead_116 : decode cX3_isRead 116 = .ok (.ireturn, 1) := by decide +kernel
theorem dX3_isRead_117 : decode cX3_isRead 117 = .ok (.aload_n 0, 1) := by decide +kernel
theorem dX3_isRead_118 : decode cX3_isRead 118 = .ok (.dup, 1) := by decide +kernel
theorem dX3_isRead_119 : decode cX3_isRead 119 = .ok (.getfield 13, 3) := by decide +kernel
theorem dX3_isRead_122 : decode cX3_isRead 122 = .ok (.iconst 1, 1) := by decide +kernel
theorem dX3_isRead_123 : decode cX3_isRead 123 = .ok (.iadd, 1) := by decide +kernel
theorem dX3_isRead_124 : decode cX3_isRead 124 = .ok (.putfield 13, 3) := by decide +kernel
theorem dX3_isRead_127 : decode cX3_isRead 127 = .ok (.aload_n 0, 1) := by decide +kernel
theorem dX3_isRead_128 : decode cX3_isRead 128 = .ok (.invokevirtual 66, 3) := by decide +kernel
theorem dX3_isRead_131 : decode cX3_isRead 131 = .ok (.ifCond .eq 16, 3) := by decide +kernel
theorem dX3_isRead_134 : decode cX3_isRead 134 = .ok (.aload_n 0, 1) := by decide +kernel
theorem dX3_isRead_135 : decode cX3_isRead 135 = .ok (.bipush 59, 2) := by decide +kernel
theorem dX3_isRead_137 : decode cX3_isRead 137 = .ok (.invokevirtual 59, 3) := by decide +kernel
theorem dX3_isRead_140 : decode cX3_isRead 140 = .ok (.ifCond .eq 7, 3) := by decide +kernel
theorem dX3_isRead_143 : decode cX3_isRead 143 = .ok (.iconst 1, 1) := by decide +kernel
theorem dX3_isRead_144 : decode cX3_isRead 144 = .ok (.goto 4, 3) := by decide +kernel
theorem dX3_isRead_147 : decode cX3_isRead 147 = .ok (.iconst 0, 1) := by decide +kernel
theorem dX3_isRead_148 : decode cX3_isRead 148 = .ok (.ireturn, 1) := by decide +kernel
theorem dX3_isRead_149 : decode cX3_isRead 149 = .ok (.iconst 0, 1) := by decide +kernel
theorem dX3_isRead_150 : decode cX3_isRead 150 = .ok (.ireturn, 1) := by decide +kernel
set_option maxRecDepth 20000 in
theorem ggX3_areRingNumbersRead_X3_isNumberRead : GoodIn wsX3_areRingNumbersRead wsX3_isNumberRead := goodIn_r _ [8, 1, 9, 10, 11, 12, 13, 14, 15, 16, 17, 18, 19, 20, 21, 22, 23, 24, 29, 30, 31, 32, 33, 34, 35, 36, 37, 38, 39, 40] (by decide +kernel) (by decide +kernel)
set_option maxRecDepth 20000 in
theorem gX3_areRingNumbersRead_X3_isNumberRead : GoodIn wsX3_areRingNumbersRead (wsV RX3 63 RX3 yX3_isNumberRead wsX3_isNumberRead) := goodIn_app (goodIn_of _ (by decide +kernel)) ggX3_areRingNumbersRead_X3_isNumberRead
set_option maxRecDepth 20000 in
theorem ggX3_areRingNumbersRead_X3_isSkipped : GoodIn wsX3_areRingNumbersRead wsX3_isSkipped := goodIn_r _ [28, 10, 9, 11, 12, 13, 14, 15, 16, 17, 18, 19, 20, 21, 22, 23, 24, 29, 30, 31, 32, 33, 34, 35, 36, 37, 38, 39, 40] (by decide +kernel) (by decide +kernel)
set_option maxRecDepth 20000 in
theorem gX3_areRingNumbersRead_X3_isSkipped : GoodIn wsX3_areRingNumbersRead (wsV RX3 59 RX3 yX3_isSkipped wsX3_isSkipped) := goodIn_app (goodIn_of _ (by decide +kernel)) ggX3_areRingNumbersRead_X3_isSkipped
theorem dX3_areRingNumbersRead_0 : decode cX3_areRingNumbersRead 0 = .ok (.aload_n 0, 1) := by decide +kernel
theorem dX3_areRingNumbersRead_1 : decode cX3_areRingNumbersRead 1 = .ok (.invokevirtual 63, 3) := by decide +kernel
theorem dX3_areRingNumbersRead_4 : decode cX3_areRingNumbersRead 4 = .ok (.ifCond .eq 12, 3) := by decide +kernel
theorem dX3_areRingNumbersRead_7 : decode cX3_areRingNumbersRead 7 = .ok (.aload_n 0, 1) := by decide +kernel
theorem dX3_areRingNumbersRead_8 : decode cX3_areRingNumbersRead 8 = .ok (.bipush 44, 2) := by decide +kernel
theorem dX3_areRingNumbersRead_10 : decode cX3_areRingNumbersRead 10 = .ok (.invokevirtual 59, 3) := by decide +kernel
theorem dX3_areRingNumbersRead_13 : decode cX3_areRingNumbersRead 13 = .ok (.ifCond .ne 5, 3) := by decide +kernel
theorem dX3_areRingNumbersRead_16 : decode cX3_areRingNumbersRead 16 = .ok (.iconst 0, 1) := by decide +kernel
theorem dX3_areRingNumbersRead_17 : decode cX3_areRingNumbersRead 17 = .ok (.ireturn, 1) := by decide +kernel
theorem dX3_areRingNumbersRead_18 : decode cX3_areRingNumbersRead 18 = .ok (.aload_n 0, 1) := by decide +kernel
theorem dX3_areRingNumbersRead_19 : decode cX3_areRingNumbersRead 19 = .ok (.aload_n 0, 1) := by decide +kernel
theorem dX3_areRingNumbersRead_20 : decode cX3_areRingNumbersRead 20 = .ok (.getfield 30, 3) := by decide +kernel
theorem dX3_areRingNumbersRead_23 : decode cX3_areRingNumbersRead 23 = .ok (.putfield 33, 3) := by decide +kernel
theorem dX3_areRingNumbersRead_26 : decode cX3_areRingNumbersRead 26 = .ok (.aload_n 0, 1) := by decide +kernel
theorem dX3_areRingNumbersRead_27 : decode cX3_areRingNumbersRead 27 = .ok (.invokevirtual 63, 3) := by decide +kernel
theorem dX3_areRingNumbersRead_30 : decode cX3_areRingNumbersRead 30 = .ok (.ifCond .eq 12, 3) := by decide +kernel
theorem dX3_areRingNumbersRead_33 : decode cX3_areRingNumbersRead 33 = .ok (.aload_n 0, 1) := by decide +kernel
theorem dX3_areRingNumbersRead_34 : decode cX3_areRingNumbersRead 34 = .ok (.bipush 44, 2) := by decide +kernel
theorem dX3_areRingNumbersRead_36 : decode cX3_areRingNumbersRead 36 = .ok (.invokevirtual 59, 3) := by decide +kernel
theorem dX3_areRingNumbersRead_39 : decode cX3_areRingNumbersRead 39 = .ok (.ifCond .ne 5, 3) := by decide +kernel
theorem dX3_areRingNumbersRead_42 : decode cX3_areRingNumbersRead 42 = .ok (.iconst 0, 1) := by decide +kernel
theorem dX3_areRingNumbersRead_43 : decode cX3_areRingNumbersRead 43 = .ok (.ireturn, 1) := by decide +kernel
theorem dX3_areRingNumbersRead_44 : decode cX3_areRingNumbersRead 44 = .ok (.aload_n 0, 1) := by decide +kernel
theorem dX3_areRingNumbersRead_45 : decode cX3_areRingNumbersRead 45 = .ok (.aload_n 0, 1) := by decide +kernel
theorem dX3_areRingNumbersRead_46 : decode cX3_areRingNumbersRead 46 = .ok (.getfield 30, 3) := by decide +kernel
theorem dX3_areRingNumbersRead_49 : decode cX3_areRingNumbersRead 49 = .ok (.putfield 36, 3) := by decide +kernel
theorem dX3_areRingNumbersRead_52 : decode cX3_areRingNumbersRead 52 = .ok (.aload_n 0, 1) := by decide +kernel
theorem dX3_areRingNumbersRead_53 : decode cX3_areRingNumbersRead 53 = .ok (.invokevirtual 63, 3) := by decide +kernel
theorem dX3_areRingNumbersRead_56 : decode cX3_areRingNumbersRead 56 = .ok (.ireturn, 1) := by decide +kernel
set_option maxRecDepth 20000 in
theorem ggX3_isNumberRead_X8_at : GoodIn wsX3_isNumberRead wsX8_at := goodIn_r _ [8, 9, 10, 11, 12, 13, 14, 15, 16, 17, 28, 29] (by decide +kernel) (by decide +kernel)
set_option maxRecDepth 20000 in
theorem gX3_isNumberRead_X8_at : GoodIn wsX3_isNumberRead (wsV RX3 55 RX8 yX8_at wsX8_at) := goodIn_app (goodIn_of _ (by decide +kernel)) ggX3_isNumberRead_X8_at
set_option maxRecDepth 20000 in
theorem ggX3_isNumberRead_X9_isWithin : GoodIn wsX3_isNumberRead wsX9_isWithin := goodIn_r _ [17] (by decide +kernel) (by decide +kernel)
set_option maxRecDepth 20000 in
theorem gX3_isNumberRead_X9_isWithin_n69 : GoodIn wsX3_isNumberRead (wsX9_isWithin) := ggX3_isNumberRead_X9_isWithin
theorem dX3_isNumberRead_0 : decode cX3_isNumberRead 0 = .ok (.aload_n 0, 1) := by decide +kernel
theorem dX3_isNumberRead_1 : decode cX3_isNumberRead 1 = .ok (.iconst 0, 1) := by decide +kernel
theorem dX3_isNumberRead_2 : decode cX3_isNumberRead 2 = .ok (.putfield 30, 3) := by decide +kernel
theorem dX3_isNumberRead_5 : decode cX3_isNumberRead 5 = .ok (.aload_n 0, 1) := by decide +kernel
theorem dX3_isNumberRead_6 : decode cX3_isNumberRead 6 = .ok (.getfield 13, 3) := by decide +kernel
theorem dX3_isNumberRead_9 : decode cX3_isNumberRead 9 = .ok (.istore_n 1, 1) := by decide +kernel
theorem dX3_isNumberRead_10 : decode cX3_isNumberRead 10 = .ok (.aload_n 0, 1) := by decide +kernel
theorem dX3_isNumberRead_11 : decode cX3_isNumberRead 11 = .ok (.getfield 13, 3) := by decide +kernel
theorem dX3_isNumberRead_14 : decode cX3_isNumberRead 14 = .ok (.iload_n 1, 1) := by decide +kernel
