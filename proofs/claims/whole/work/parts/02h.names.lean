theorem dX10_samples_197 : decode cX10_samples 197 = .ok (.iaload, 1) := by decide +kernel
theorem dX10_samples_198 : decode cX10_samples 198 = .ok (.iconst 1, 1) := by decide +kernel
theorem dX10_samples_199 : decode cX10_samples 199 = .ok (.isub, 1) := by decide +kernel
theorem dX10_samples_200 : decode cX10_samples 200 = .ok (.iastore, 1) := by decide +kernel
theorem dX10_samples_201 : decode cX10_samples 201 = .ok (.aload_n 0, 1) := by decide +kernel
theorem dX10_samples_202 : decode cX10_samples 202 = .ok (.getfield 7, 3) := by decide +kernel
theorem dX10_samples_205 : decode cX10_samples 205 = .ok (.iload_n 1, 1) := by decide +kernel
theorem dX10_samples_206 : decode cX10_samples 206 = .ok (.bipush 11, 2) := by decide +kernel
theorem dX10_samples_208 : decode cX10_samples 208 = .ok (.iadd, 1) := by decide +kernel
theorem dX10_samples_209 : decode cX10_samples 209 = .ok (.aload_n 0, 1) := by decide +kernel
theorem dX10_samples_210 : decode cX10_samples 210 = .ok (.getfield 7, 3) := by decide +kernel
theorem dX10_samples_213 : decode cX10_samples 213 = .ok (.iload_n 1, 1) := by decide +kernel
theorem dX10_samples_214 : decode cX10_samples 214 = .ok (.bipush 13, 2) := by decide +kernel
theorem dX10_samples_216 : decode cX10_samples 216 = .ok (.iadd, 1) := by decide +kernel
theorem dX10_samples_217 : decode cX10_samples 217 = .ok (.iaload, 1) := by decide +kernel
theorem dX10_samples_218 : decode cX10_samples 218 = .ok (.ifCond .ne 7, 3) := by decide +kernel
theorem dX10_samples_221 : decode cX10_samples 221 = .ok (.iconst 1, 1) := by decide +kernel
theorem dX10_samples_222 : decode cX10_samples 222 = .ok (.goto 4, 3) := by decide +kernel
theorem dX10_samples_225 : decode cX10_samples 225 = .ok (.iconst 0, 1) := by decide +kernel
theorem dX10_samples_226 : decode cX10_samples 226 = .ok (.iastore, 1) := by decide +kernel
theorem dX10_samples_227 : decode cX10_samples 227 = .ok (.goto 9, 3) := by decide +kernel
theorem dX10_samples_230 : decode cX10_samples 230 = .ok (.aload_n 0, 1) := by decide +kernel
theorem dX10_samples_231 : decode cX10_samples 231 = .ok (.iload_n 1, 1) := by decide +kernel
theorem dX10_samples_232 : decode cX10_samples 232 = .ok (.iload_n 2, 1) := by decide +kernel
theorem dX10_samples_233 : decode cX10_samples 233 = .ok (.invokevirtual 52, 3) := by decide +kernel
theorem dX10_samples_236 : decode cX10_samples 236 = .ok (.return_, 1) := by decide +kernel
set_option maxRecDepth 20000 in
theorem ggX10_makes_X10_samples : GoodIn wsX10_makes wsX10_samples := goodIn_r _ [6, 1, 7, 8, 9, 5, 10, 11, 12, 13, 14, 15, 16, 17, 18, 19, 20, 21, 22, 23, 24, 25, 26, 27, 28, 29, 30, 31, 32, 33, 34, 35, 36, 37, 38, 39, 40, 41, 42, 43, 44, 45, 46, 47] (by decide +kernel) (by decide +kernel)
set_option maxRecDepth 20000 in
theorem gX10_makes_X10_samples : GoodIn wsX10_makes (wsV RX10 55 RX10 yX10_samples wsX10_samples) := goodIn_app (goodIn_of _ (by decide +kernel)) ggX10_makes_X10_samples
theorem dX10_makes_0 : decode cX10_makes 0 = .ok (.sipush 157, 3) := by decide +kernel
theorem dX10_makes_3 : decode cX10_makes 3 = .ok (.iload_n 1, 1) := by decide +kernel
theorem dX10_makes_4 : decode cX10_makes 4 = .ok (.imul, 1) := by decide +kernel
theorem dX10_makes_5 : decode cX10_makes 5 = .ok (.istore_n 3, 1) := by decide +kernel
theorem dX10_makes_6 : decode cX10_makes 6 = .ok (.aload_n 0, 1) := by decide +kernel
theorem dX10_makes_7 : decode cX10_makes 7 = .ok (.getfield 7, 3) := by decide +kernel
theorem dX10_makes_10 : decode cX10_makes 10 = .ok (.iload_n 3, 1) := by decide +kernel
theorem dX10_makes_11 : decode cX10_makes 11 = .ok (.bipush 23, 2) := by decide +kernel
theorem dX10_makes_13 : decode cX10_makes 13 = .ok (.iadd, 1) := by decide +kernel
theorem dX10_makes_14 : decode cX10_makes 14 = .ok (.iaload, 1) := by decide +kernel
theorem dX10_makes_15 : decode cX10_makes 15 = .ok (.istore 4, 2) := by decide +kernel
theorem dX10_makes_17 : decode cX10_makes 17 = .ok (.iconst 0, 1) := by decide +kernel
theorem dX10_makes_18 : decode cX10_makes 18 = .ok (.istore 5, 2) := by decide +kernel
theorem dX10_makes_20 : decode cX10_makes 20 = .ok (.iload 5, 2) := by decide +kernel
theorem dX10_makes_22 : decode cX10_makes 22 = .ok (.iload_n 2, 1) := by decide +kernel
theorem dX10_makes_23 : decode cX10_makes 23 = .ok (.if_icmp .ge 14, 3) := by decide +kernel
theorem dX10_makes_26 : decode cX10_makes 26 = .ok (.aload_n 0, 1) := by decide +kernel
theorem dX10_makes_27 : decode cX10_makes 27 = .ok (.iload_n 3, 1) := by decide +kernel
theorem dX10_makes_28 : decode cX10_makes 28 = .ok (.invokevirtual 55, 3) := by decide +kernel
theorem dX10_makes_31 : decode cX10_makes 31 = .ok (.iinc 5 1, 3) := by decide +kernel
theorem dX10_makes_34 : decode cX10_makes 34 = .ok (.goto (-14), 3) := by decide +kernel
theorem dX10_makes_37 : decode cX10_makes 37 = .ok (.aload_n 0, 1) := by decide +kernel
theorem dX10_makes_38 : decode cX10_makes 38 = .ok (.getfield 7, 3) := by decide +kernel
theorem dX10_makes_41 : decode cX10_makes 41 = .ok (.iload_n 3, 1) := by decide +kernel
theorem dX10_makes_42 : decode cX10_makes 42 = .ok (.bipush 23, 2) := by decide +kernel
theorem dX10_makes_44 : decode cX10_makes 44 = .ok (.iadd, 1) := by decide +kernel
theorem dX10_makes_45 : decode cX10_makes 45 = .ok (.iaload, 1) := by decide +kernel
theorem dX10_makes_46 : decode cX10_makes 46 = .ok (.iload 4, 2) := by decide +kernel
theorem dX10_makes_48 : decode cX10_makes 48 = .ok (.isub, 1) := by decide +kernel
theorem dX10_makes_49 : decode cX10_makes 49 = .ok (.ireturn, 1) := by decide +kernel
set_option maxRecDepth 20000 in
theorem ggX10_sets_X10_in : GoodIn wsX10_sets wsX10_in := goodIn_r _ [6] (by decide +kernel) (by decide +kernel)
set_option maxRecDepth 20000 in
theorem gX10_sets_X10_in : GoodIn wsX10_sets (va_wsS RX10 30 yX10_in wsX10_in) := goodIn_app (goodIn_of _ (by decide +kernel)) ggX10_sets_X10_in
theorem dX10_sets_0 : decode cX10_sets 0 = .ok (.iload_n 2, 1) := by decide +kernel
theorem dX10_sets_1 : decode cX10_sets 1 = .ok (.iconst 0, 1) := by decide +kernel
theorem dX10_sets_2 : decode cX10_sets 2 = .ok (.iconst 1, 1) := by decide +kernel
theorem dX10_sets_3 : decode cX10_sets 3 = .ok (.invokestatic 30, 3) := by decide +kernel
theorem dX10_sets_6 : decode cX10_sets 6 = .ok (.ifCond .eq 26, 3) := by decide +kernel
theorem dX10_sets_9 : decode cX10_sets 9 = .ok (.iload_n 3, 1) := by decide +kernel
theorem dX10_sets_10 : decode cX10_sets 10 = .ok (.bipush 10, 2) := by decide +kernel
theorem dX10_sets_12 : decode cX10_sets 12 = .ok (.sipush 999, 3) := by decide +kernel
theorem dX10_sets_15 : decode cX10_sets 15 = .ok (.invokestatic 30, 3) := by decide +kernel
theorem dX10_sets_18 : decode cX10_sets 18 = .ok (.ifCond .eq 14, 3) := by decide +kernel
theorem dX10_sets_21 : decode cX10_sets 21 = .ok (.iload 4, 2) := by decide +kernel
theorem dX10_sets_23 : decode cX10_sets 23 = .ok (.iconst 0, 1) := by decide +kernel
theorem dX10_sets_24 : decode cX10_sets 24 = .ok (.bipush 99, 2) := by decide +kernel
theorem dX10_sets_26 : decode cX10_sets 26 = .ok (.invokestatic 30, 3) := by decide +kernel
theorem dX10_sets_29 : decode cX10_sets 29 = .ok (.ifCond .ne 6, 3) := by decide +kernel
theorem dX10_sets_32 : decode cX10_sets 32 = .ok (.ldc 59, 2) := by decide +kernel
theorem dX10_sets_34 : decode cX10_sets 34 = .ok (.ireturn, 1) := by decide +kernel
theorem dX10_sets_35 : decode cX10_sets 35 = .ok (.sipush 157, 3) := by decide +kernel
theorem dX10_sets_38 : decode cX10_sets 38 = .ok (.iload_n 1, 1) := by decide +kernel
theorem dX10_sets_39 : decode cX10_sets 39 = .ok (.imul, 1) := by decide +kernel
theorem dX10_sets_40 : decode cX10_sets 40 = .ok (.istore 5, 2) := by decide +kernel
theorem dX10_sets_42 : decode cX10_sets 42 = .ok (.aload_n 0, 1) := by decide +kernel
theorem dX10_sets_43 : decode cX10_sets 43 = .ok (.getfield 7, 3) := by decide +kernel
theorem dX10_sets_46 : decode cX10_sets 46 = .ok (.iload 5, 2) := by decide +kernel
theorem dX10_sets_48 : decode cX10_sets 48 = .ok (.iconst 1, 1) := by decide +kernel
theorem dX10_sets_49 : decode cX10_sets 49 = .ok (.iadd, 1) := by decide +kernel
theorem dX10_sets_50 : decode cX10_sets 50 = .ok (.iload_n 2, 1) := by decide +kernel
theorem dX10_sets_51 : decode cX10_sets 51 = .ok (.iadd, 1) := by decide +kernel
theorem dX10_sets_52 : decode cX10_sets 52 = .ok (.iaload, 1) := by decide +kernel
theorem dX10_sets_53 : decode cX10_sets 53 = .ok (.istore 6, 2) := by decide +kernel
theorem dX10_sets_55 : decode cX10_sets 55 = .ok (.aload_n 0, 1) := by decide +kernel
theorem dX10_sets_56 : decode cX10_sets 56 = .ok (.getfield 7, 3) := by decide +kernel
theorem dX10_sets_59 : decode cX10_sets 59 = .ok (.iload 5, 2) := by decide +kernel
theorem dX10_sets_61 : decode cX10_sets 61 = .ok (.iconst 1, 1) := by decide +kernel
theorem dX10_sets_62 : decode cX10_sets 62 = .ok (.iadd, 1) := by decide +kernel
theorem dX10_sets_63 : decode cX10_sets 63 = .ok (.iload_n 2, 1) := by decide +kernel
theorem dX10_sets_64 : decode cX10_sets 64 = .ok (.iadd, 1) := by decide +kernel
theorem dX10_sets_65 : decode cX10_sets 65 = .ok (.iload_n 3, 1) := by decide +kernel
theorem dX10_sets_66 : decode cX10_sets 66 = .ok (.iastore, 1) := by decide +kernel
theorem dX10_sets_67 : decode cX10_sets 67 = .ok (.aload_n 0, 1) := by decide +kernel
theorem dX10_sets_68 : decode cX10_sets 68 = .ok (.getfield 7, 3) := by decide +kernel
theorem dX10_sets_71 : decode cX10_sets 71 = .ok (.iload 5, 2) := by decide +kernel
theorem dX10_sets_73 : decode cX10_sets 73 = .ok (.iconst 3, 1) := by decide +kernel
theorem dX10_sets_74 : decode cX10_sets 74 = .ok (.iadd, 1) := by decide +kernel
theorem dX10_sets_75 : decode cX10_sets 75 = .ok (.iload_n 2, 1) := by decide +kernel
theorem dX10_sets_76 : decode cX10_sets 76 = .ok (.iadd, 1) := by decide +kernel
theorem dX10_sets_77 : decode cX10_sets 77 = .ok (.iload 4, 2) := by decide +kernel
theorem dX10_sets_79 : decode cX10_sets 79 = .ok (.iastore, 1) := by decide +kernel
theorem dX10_sets_80 : decode cX10_sets 80 = .ok (.aload_n 0, 1) := by decide +kernel
theorem dX10_sets_81 : decode cX10_sets 81 = .ok (.getfield 7, 3) := by decide +kernel
theorem dX10_sets_84 : decode cX10_sets 84 = .ok (.iload 5, 2) := by decide +kernel
theorem dX10_sets_86 : decode cX10_sets 86 = .ok (.iconst 5, 1) := by decide +kernel
theorem dX10_sets_87 : decode cX10_sets 87 = .ok (.iadd, 1) := by decide +kernel
theorem dX10_sets_88 : decode cX10_sets 88 = .ok (.iload_n 2, 1) := by decide +kernel
theorem dX10_sets_89 : decode cX10_sets 89 = .ok (.iadd, 1) := by decide +kernel
theorem dX10_sets_90 : decode cX10_sets 90 = .ok (.iconst 0, 1) := by decide +kernel
theorem dX10_sets_91 : decode cX10_sets 91 = .ok (.iastore, 1) := by decide +kernel
theorem dX10_sets_92 : decode cX10_sets 92 = .ok (.iload 6, 2) := by decide +kernel
theorem dX10_sets_94 : decode cX10_sets 94 = .ok (.ireturn, 1) := by decide +kernel
set_option maxRecDepth 20000 in
theorem ggX10_draws_X10_in : GoodIn wsX10_draws wsX10_in := goodIn_r _ [7] (by decide +kernel) (by decide +kernel)
set_option maxRecDepth 20000 in
theorem gX10_draws_X10_in : GoodIn wsX10_draws (va_wsS RX10 30 yX10_in wsX10_in) := goodIn_app (goodIn_of _ (by decide +kernel)) ggX10_draws_X10_in
theorem dX10_draws_0 : decode cX10_draws 0 = .ok (.sipush 157, 3) := by decide +kernel
theorem dX10_draws_3 : decode cX10_draws 3 = .ok (.iload_n 1, 1) := by decide +kernel
theorem dX10_draws_4 : decode cX10_draws 4 = .ok (.imul, 1) := by decide +kernel
theorem dX10_draws_5 : decode cX10_draws 5 = .ok (.istore_n 3, 1) := by decide +kernel
theorem dX10_draws_6 : decode cX10_draws 6 = .ok (.iload_n 2, 1) := by decide +kernel
theorem dX10_draws_7 : decode cX10_draws 7 = .ok (.iconst 1, 1) := by decide +kernel
theorem dX10_draws_8 : decode cX10_draws 8 = .ok (.bipush 24, 2) := by decide +kernel
theorem dX10_draws_10 : decode cX10_draws 10 = .ok (.invokestatic 30, 3) := by decide +kernel
theorem dX10_draws_13 : decode cX10_draws 13 = .ok (.ifCond .ne 6, 3) := by decide +kernel
theorem dX10_draws_16 : decode cX10_draws 16 = .ok (.ldc 59, 2) := by decide +kernel
theorem dX10_draws_18 : decode cX10_draws 18 = .ok (.ireturn, 1) := by decide +kernel
theorem dX10_draws_19 : decode cX10_draws 19 = .ok (.aload_n 0, 1) := by decide +kernel
theorem dX10_draws_20 : decode cX10_draws 20 = .ok (.getfield 7, 3) := by decide +kernel
theorem dX10_draws_23 : decode cX10_draws 23 = .ok (.iload_n 3, 1) := by decide +kernel
theorem dX10_draws_24 : decode cX10_draws 24 = .ok (.bipush 18, 2) := by decide +kernel
theorem dX10_draws_26 : decode cX10_draws 26 = .ok (.iadd, 1) := by decide +kernel
theorem dX10_draws_27 : decode cX10_draws 27 = .ok (.iaload, 1) := by decide +kernel
theorem dX10_draws_28 : decode cX10_draws 28 = .ok (.iload_n 2, 1) := by decide +kernel
theorem dX10_draws_29 : decode cX10_draws 29 = .ok (.if_icmp .lt 16, 3) := by decide +kernel
theorem dX10_draws_32 : decode cX10_draws 32 = .ok (.aload_n 0, 1) := by decide +kernel
theorem dX10_draws_33 : decode cX10_draws 33 = .ok (.getfield 7, 3) := by decide +kernel
theorem dX10_draws_36 : decode cX10_draws 36 = .ok (.iload_n 3, 1) := by decide +kernel
theorem dX10_draws_37 : decode cX10_draws 37 = .ok (.bipush 11, 2) := by decide +kernel
theorem dX10_draws_39 : decode cX10_draws 39 = .ok (.iadd, 1) := by decide +kernel
theorem dX10_draws_40 : decode cX10_draws 40 = .ok (.iaload, 1) := by decide +kernel
theorem dX10_draws_41 : decode cX10_draws 41 = .ok (.iconst 2, 1) := by decide +kernel
theorem dX10_draws_42 : decode cX10_draws 42 = .ok (.if_icmp .ne 6, 3) := by decide +kernel
theorem dX10_draws_45 : decode cX10_draws 45 = .ok (.ldc 60, 2) := by decide +kernel
theorem dX10_draws_47 : decode cX10_draws 47 = .ok (.ireturn, 1) := by decide +kernel
theorem dX10_draws_48 : decode cX10_draws 48 = .ok (.iconst 0, 1) := by decide +kernel
theorem dX10_draws_49 : decode cX10_draws 49 = .ok (.istore 4, 2) := by decide +kernel
theorem dX10_draws_51 : decode cX10_draws 51 = .ok (.iconst 0, 1) := by decide +kernel
theorem dX10_draws_52 : decode cX10_draws 52 = .ok (.istore 5, 2) := by decide +kernel
theorem dX10_draws_54 : decode cX10_draws 54 = .ok (.iload 5, 2) := by decide +kernel
theorem dX10_draws_56 : decode cX10_draws 56 = .ok (.iload_n 2, 1) := by decide +kernel
theorem dX10_draws_57 : decode cX10_draws 57 = .ok (.if_icmp .ge 28, 3) := by decide +kernel
theorem dX10_draws_60 : decode cX10_draws 60 = .ok (.iconst 2, 1) := by decide +kernel
theorem dX10_draws_61 : decode cX10_draws 61 = .ok (.iload 4, 2) := by decide +kernel
theorem dX10_draws_63 : decode cX10_draws 63 = .ok (.imul, 1) := by decide +kernel
theorem dX10_draws_64 : decode cX10_draws 64 = .ok (.aload_n 0, 1) := by decide +kernel
theorem dX10_draws_65 : decode cX10_draws 65 = .ok (.getfield 7, 3) := by decide +kernel
theorem dX10_draws_68 : decode cX10_draws 68 = .ok (.iload_n 3, 1) := by decide +kernel
theorem dX10_draws_69 : decode cX10_draws 69 = .ok (.bipush 93, 2) := by decide +kernel
theorem dX10_draws_71 : decode cX10_draws 71 = .ok (.iadd, 1) := by decide +kernel
theorem dX10_draws_72 : decode cX10_draws 72 = .ok (.iload 5, 2) := by decide +kernel
theorem dX10_draws_74 : decode cX10_draws 74 = .ok (.iadd, 1) := by decide +kernel
theorem dX10_draws_75 : decode cX10_draws 75 = .ok (.iaload, 1) := by decide +kernel
theorem dX10_draws_76 : decode cX10_draws 76 = .ok (.iadd, 1) := by decide +kernel
theorem dX10_draws_77 : decode cX10_draws 77 = .ok (.istore 4, 2) := by decide +kernel
theorem dX10_draws_79 : decode cX10_draws 79 = .ok (.iinc 5 1, 3) := by decide +kernel
theorem dX10_draws_82 : decode cX10_draws 82 = .ok (.goto (-28), 3) := by decide +kernel
theorem dX10_draws_85 : decode cX10_draws 85 = .ok (.iload_n 2, 1) := by decide +kernel
theorem dX10_draws_86 : decode cX10_draws 86 = .ok (.istore 5, 2) := by decide +kernel
theorem dX10_draws_88 : decode cX10_draws 88 = .ok (.iload 5, 2) := by decide +kernel
theorem dX10_draws_90 : decode cX10_draws 90 = .ok (.aload_n 0, 1) := by decide +kernel
theorem dX10_draws_91 : decode cX10_draws 91 = .ok (.getfield 7, 3) := by decide +kernel
theorem dX10_draws_94 : decode cX10_draws 94 = .ok (.iload_n 3, 1) := by decide +kernel
theorem dX10_draws_95 : decode cX10_draws 95 = .ok (.bipush 18, 2) := by decide +kernel
theorem dX10_draws_97 : decode cX10_draws 97 = .ok (.iadd, 1) := by decide +kernel
theorem dX10_draws_98 : decode cX10_draws 98 = .ok (.iaload, 1) := by decide +kernel
theorem dX10_draws_99 : decode cX10_draws 99 = .ok (.if_icmp .ge 35, 3) := by decide +kernel
theorem dX10_draws_102 : decode cX10_draws 102 = .ok (.aload_n 0, 1) := by decide +kernel
theorem dX10_draws_103 : decode cX10_draws 103 = .ok (.getfield 7, 3) := by decide +kernel
theorem dX10_draws_106 : decode cX10_draws 106 = .ok (.iload_n 3, 1) := by decide +kernel
theorem dX10_draws_107 : decode cX10_draws 107 = .ok (.bipush 93, 2) := by decide +kernel
theorem dX10_draws_109 : decode cX10_draws 109 = .ok (.iadd, 1) := by decide +kernel
theorem dX10_draws_110 : decode cX10_draws 110 = .ok (.iload 5, 2) := by decide +kernel
theorem dX10_draws_112 : decode cX10_draws 112 = .ok (.iadd, 1) := by decide +kernel
theorem dX10_draws_113 : decode cX10_draws 113 = .ok (.iload_n 2, 1) := by decide +kernel
theorem dX10_draws_114 : decode cX10_draws 114 = .ok (.isub, 1) := by decide +kernel
theorem dX10_draws_115 : decode cX10_draws 115 = .ok (.aload_n 0, 1) := by decide +kernel
theorem dX10_draws_116 : decode cX10_draws 116 = .ok (.getfield 7, 3) := by decide +kernel
theorem dX10_draws_119 : decode cX10_draws 119 = .ok (.iload_n 3, 1) := by decide +kernel
theorem dX10_draws_120 : decode cX10_draws 120 = .ok (.bipush 93, 2) := by decide +kernel
theorem dX10_draws_122 : decode cX10_draws 122 = .ok (.iadd, 1) := by decide +kernel
theorem dX10_draws_123 : decode cX10_draws 123 = .ok (.iload 5, 2) := by decide +kernel
theorem dX10_draws_125 : decode cX10_draws 125 = .ok (.iadd, 1) := by decide +kernel
theorem dX10_draws_126 : decode cX10_draws 126 = .ok (.iaload, 1) := by decide +kernel
theorem dX10_draws_127 : decode cX10_draws 127 = .ok (.iastore, 1) := by decide +kernel
theorem dX10_draws_128 : decode cX10_draws 128 = .ok (.iinc 5 1, 3) := by decide +kernel
theorem dX10_draws_131 : decode cX10_draws 131 = .ok (.goto (-43), 3) := by decide +kernel
theorem dX10_draws_134 : decode cX10_draws 134 = .ok (.aload_n 0, 1) := by decide +kernel
theorem dX10_draws_135 : decode cX10_draws 135 = .ok (.getfield 7, 3) := by decide +kernel
theorem dX10_draws_138 : decode cX10_draws 138 = .ok (.iload_n 3, 1) := by decide +kernel
theorem dX10_draws_139 : decode cX10_draws 139 = .ok (.bipush 18, 2) := by decide +kernel
theorem dX10_draws_141 : decode cX10_draws 141 = .ok (.iadd, 1) := by decide +kernel
theorem dX10_draws_142 : decode cX10_draws 142 = .ok (.dup2, 1) := by decide +kernel
theorem dX10_draws_143 : decode cX10_draws 143 = .ok (.iaload, 1) := by decide +kernel
theorem dX10_draws_144 : decode cX10_draws 144 = .ok (.iload_n 2, 1) := by decide +kernel
theorem dX10_draws_145 : decode cX10_draws 145 = .ok (.isub, 1) := by decide +kernel
theorem dX10_draws_146 : decode cX10_draws 146 = .ok (.iastore, 1) := by decide +kernel
theorem dX10_draws_147 : decode cX10_draws 147 = .ok (.aload_n 0, 1) := by decide +kernel
theorem dX10_draws_148 : decode cX10_draws 148 = .ok (.getfield 7, 3) := by decide +kernel
theorem dX10_draws_151 : decode cX10_draws 151 = .ok (.iload_n 3, 1) := by decide +kernel
theorem dX10_draws_152 : decode cX10_draws 152 = .ok (.bipush 25, 2) := by decide +kernel
theorem dX10_draws_154 : decode cX10_draws 154 = .ok (.iadd, 1) := by decide +kernel
theorem dX10_draws_155 : decode cX10_draws 155 = .ok (.dup2, 1) := by decide +kernel
theorem dX10_draws_156 : decode cX10_draws 156 = .ok (.iaload, 1) := by decide +kernel
theorem dX10_draws_157 : decode cX10_draws 157 = .ok (.iload_n 2, 1) := by decide +kernel
theorem dX10_draws_158 : decode cX10_draws 158 = .ok (.iadd, 1) := by decide +kernel
theorem dX10_draws_159 : decode cX10_draws 159 = .ok (.iastore, 1) := by decide +kernel
theorem dX10_draws_160 : decode cX10_draws 160 = .ok (.iload 4, 2) := by decide +kernel
theorem dX10_draws_162 : decode cX10_draws 162 = .ok (.ireturn, 1) := by decide +kernel
theorem dX10_starts_0 : decode cX10_starts 0 = .ok (.sipush 157, 3) := by decide +kernel
theorem dX10_starts_3 : decode cX10_starts 3 = .ok (.iload_n 1, 1) := by decide +kernel
theorem dX10_starts_4 : decode cX10_starts 4 = .ok (.imul, 1) := by decide +kernel
theorem dX10_starts_5 : decode cX10_starts 5 = .ok (.istore_n 2, 1) := by decide +kernel
theorem dX10_starts_6 : decode cX10_starts 6 = .ok (.aload_n 0, 1) := by decide +kernel
theorem dX10_starts_7 : decode cX10_starts 7 = .ok (.getfield 7, 3) := by decide +kernel
theorem dX10_starts_10 : decode cX10_starts 10 = .ok (.iload_n 2, 1) := by decide +kernel
theorem dX10_starts_11 : decode cX10_starts 11 = .ok (.bipush 18, 2) := by decide +kernel
theorem dX10_starts_13 : decode cX10_starts 13 = .ok (.iadd, 1) := by decide +kernel
theorem dX10_starts_14 : decode cX10_starts 14 = .ok (.iaload, 1) := by decide +kernel
theorem dX10_starts_15 : decode cX10_starts 15 = .ok (.istore_n 3, 1) := by decide +kernel
theorem dX10_starts_16 : decode cX10_starts 16 = .ok (.aload_n 0, 1) := by decide +kernel
theorem dX10_starts_17 : decode cX10_starts 17 = .ok (.getfield 7, 3) := by decide +kernel
theorem dX10_starts_20 : decode cX10_starts 20 = .ok (.iload_n 2, 1) := by decide +kernel
theorem dX10_starts_21 : decode cX10_starts 21 = .ok (.bipush 11, 2) := by decide +kernel
theorem dX10_starts_23 : decode cX10_starts 23 = .ok (.iadd, 1) := by decide +kernel
theorem dX10_starts_24 : decode cX10_starts 24 = .ok (.iconst 0, 1) := by decide +kernel
theorem dX10_starts_25 : decode cX10_starts 25 = .ok (.iastore, 1) := by decide +kernel
theorem dX10_starts_26 : decode cX10_starts 26 = .ok (.aload_n 0, 1) := by decide +kernel
theorem dX10_starts_27 : decode cX10_starts 27 = .ok (.getfield 7, 3) := by decide +kernel
theorem dX10_starts_30 : decode cX10_starts 30 = .ok (.iload_n 2, 1) := by decide +kernel
theorem dX10_starts_31 : decode cX10_starts 31 = .ok (.bipush 13, 2) := by decide +kernel
theorem dX10_starts_33 : decode cX10_starts 33 = .ok (.iadd, 1) := by decide +kernel
theorem dX10_starts_34 : decode cX10_starts 34 = .ok (.bipush 64, 2) := by decide +kernel
theorem dX10_starts_36 : decode cX10_starts 36 = .ok (.iastore, 1) := by decide +kernel
theorem dX10_starts_37 : decode cX10_starts 37 = .ok (.aload_n 0, 1) := by decide +kernel
theorem dX10_starts_38 : decode cX10_starts 38 = .ok (.getfield 7, 3) := by decide +kernel
theorem dX10_starts_41 : decode cX10_starts 41 = .ok (.iload_n 2, 1) := by decide +kernel
theorem dX10_starts_42 : decode cX10_starts 42 = .ok (.bipush 14, 2) := by decide +kernel
theorem dX10_starts_44 : decode cX10_starts 44 = .ok (.iadd, 1) := by decide +kernel
theorem dX10_starts_45 : decode cX10_starts 45 = .ok (.iconst 0, 1) := by decide +kernel
theorem dX10_starts_46 : decode cX10_starts 46 = .ok (.iastore, 1) := by decide +kernel
theorem dX10_starts_47 : decode cX10_starts 47 = .ok (.aload_n 0, 1) := by decide +kernel
theorem dX10_starts_48 : decode cX10_starts 48 = .ok (.getfield 7, 3) := by decide +kernel
theorem dX10_starts_51 : decode cX10_starts 51 = .ok (.iload_n 2, 1) := by decide +kernel
theorem dX10_starts_52 : decode cX10_starts 52 = .ok (.bipush 16, 2) := by decide +kernel
theorem dX10_starts_54 : decode cX10_starts 54 = .ok (.iadd, 1) := by decide +kernel
theorem dX10_starts_55 : decode cX10_starts 55 = .ok (.iconst 0, 1) := by decide +kernel
theorem dX10_starts_56 : decode cX10_starts 56 = .ok (.iastore, 1) := by decide +kernel
theorem dX10_starts_57 : decode cX10_starts 57 = .ok (.aload_n 0, 1) := by decide +kernel
theorem dX10_starts_58 : decode cX10_starts 58 = .ok (.getfield 7, 3) := by decide +kernel
theorem dX10_starts_61 : decode cX10_starts 61 = .ok (.iload_n 2, 1) := by decide +kernel
theorem dX10_starts_62 : decode cX10_starts 62 = .ok (.bipush 17, 2) := by decide +kernel
theorem dX10_starts_64 : decode cX10_starts 64 = .ok (.iadd, 1) := by decide +kernel
theorem dX10_starts_65 : decode cX10_starts 65 = .ok (.iconst 0, 1) := by decide +kernel
theorem dX10_starts_66 : decode cX10_starts 66 = .ok (.iastore, 1) := by decide +kernel
theorem dX10_starts_67 : decode cX10_starts 67 = .ok (.aload_n 0, 1) := by decide +kernel
theorem dX10_starts_68 : decode cX10_starts 68 = .ok (.getfield 7, 3) := by decide +kernel
theorem dX10_starts_71 : decode cX10_starts 71 = .ok (.iload_n 2, 1) := by decide +kernel
theorem dX10_starts_72 : decode cX10_starts 72 = .ok (.bipush 18, 2) := by decide +kernel
theorem dX10_starts_74 : decode cX10_starts 74 = .ok (.iadd, 1) := by decide +kernel
theorem dX10_starts_75 : decode cX10_starts 75 = .ok (.iconst 0, 1) := by decide +kernel
theorem dX10_starts_76 : decode cX10_starts 76 = .ok (.iastore, 1) := by decide +kernel
theorem dX10_starts_77 : decode cX10_starts 77 = .ok (.aload_n 0, 1) := by decide +kernel
theorem dX10_starts_78 : decode cX10_starts 78 = .ok (.getfield 7, 3) := by decide +kernel
theorem dX10_starts_81 : decode cX10_starts 81 = .ok (.iload_n 2, 1) := by decide +kernel
theorem dX10_starts_82 : decode cX10_starts 82 = .ok (.bipush 19, 2) := by decide +kernel
theorem dX10_starts_84 : decode cX10_starts 84 = .ok (.iadd, 1) := by decide +kernel
theorem dX10_starts_85 : decode cX10_starts 85 = .ok (.iconst (-1), 1) := by decide +kernel
theorem dX10_starts_86 : decode cX10_starts 86 = .ok (.iastore, 1) := by decide +kernel
theorem dX10_starts_87 : decode cX10_starts 87 = .ok (.iload_n 3, 1) := by decide +kernel
theorem dX10_starts_88 : decode cX10_starts 88 = .ok (.ireturn, 1) := by decide +kernel
set_option maxRecDepth 20000 in
theorem ggX10_ring_X10_copies : GoodIn wsX10_ring wsX10_copies := goodIn_r _ [5, 6, 20, 21, 22, 23, 24, 25, 26, 27, 28] (by decide +kernel) (by decide +kernel)
set_option maxRecDepth 20000 in
theorem gX10_ring_X10_copies : GoodIn wsX10_ring (wsV RX10 21 RX10 yX10_copies wsX10_copies) := goodIn_app (goodIn_of _ (by decide +kernel)) ggX10_ring_X10_copies
set_option maxRecDepth 20000 in
theorem ggX10_ring_X10_sets : GoodIn wsX10_ring wsX10_sets := goodIn_r _ [10, 11, 6, 12, 13, 4, 14, 20, 21, 22, 23, 24, 25, 26, 27, 28] (by decide +kernel) (by decide +kernel)
set_option maxRecDepth 20000 in
theorem gX10_ring_X10_sets : GoodIn wsX10_ring (wsV RX10 61 RX10 yX10_sets wsX10_sets) := goodIn_app (goodIn_of _ (by decide +kernel)) ggX10_ring_X10_sets
set_option maxRecDepth 20000 in
theorem ggX10_ring_X10_records : GoodIn wsX10_ring wsX10_records := goodIn_r _ [18, 19, 1, 2, 3, 4, 5, 6, 20, 21, 22, 23, 24, 25, 26, 27, 28] (by decide +kernel) (by decide +kernel)
set_option maxRecDepth 20000 in
theorem gX10_ring_X10_records : GoodIn wsX10_ring (wsV RX10 65 RX10 yX10_records wsX10_records) := goodIn_app (goodIn_of _ (by decide +kernel)) ggX10_ring_X10_records
theorem dX10_ring_0 : decode cX10_ring 0 = .ok (.aload_n 0, 1) := by decide +kernel
theorem dX10_ring_1 : decode cX10_ring 1 = .ok (.iconst 0, 1) := by decide +kernel
theorem dX10_ring_2 : decode cX10_ring 2 = .ok (.iconst 5, 1) := by decide +kernel
theorem dX10_ring_3 : decode cX10_ring 3 = .ok (.invokevirtual 21, 3) := by decide +kernel
theorem dX10_ring_6 : decode cX10_ring 6 = .ok (.aload_n 0, 1) := by decide +kernel
theorem dX10_ring_7 : decode cX10_ring 7 = .ok (.iconst 5, 1) := by decide +kernel
theorem dX10_ring_8 : decode cX10_ring 8 = .ok (.iload_n 1, 1) := by decide +kernel
theorem dX10_ring_9 : decode cX10_ring 9 = .ok (.iload_n 2, 1) := by decide +kernel
theorem dX10_ring_10 : decode cX10_ring 10 = .ok (.iload_n 3, 1) := by decide +kernel
theorem dX10_ring_11 : decode cX10_ring 11 = .ok (.invokevirtual 61, 3) := by decide +kernel
theorem dX10_ring_14 : decode cX10_ring 14 = .ok (.istore 4, 2) := by decide +kernel
theorem dX10_ring_16 : decode cX10_ring 16 = .ok (.iload 4, 2) := by decide +kernel
theorem dX10_ring_18 : decode cX10_ring 18 = .ok (.ifCond .lt 13, 3) := by decide +kernel
theorem dX10_ring_21 : decode cX10_ring 21 = .ok (.aload_n 0, 1) := by decide +kernel
theorem dX10_ring_22 : decode cX10_ring 22 = .ok (.invokevirtual 65, 3) := by decide +kernel
theorem dX10_ring_25 : decode cX10_ring 25 = .ok (.aload_n 0, 1) := by decide +kernel
theorem dX10_ring_26 : decode cX10_ring 26 = .ok (.iconst 5, 1) := by decide +kernel
theorem dX10_ring_27 : decode cX10_ring 27 = .ok (.iconst 0, 1) := by decide +kernel
theorem dX10_ring_28 : decode cX10_ring 28 = .ok (.invokevirtual 21, 3) := by decide +kernel
theorem dX10_ring_31 : decode cX10_ring 31 = .ok (.iload 4, 2) := by decide +kernel
theorem dX10_ring_33 : decode cX10_ring 33 = .ok (.ireturn, 1) := by decide +kernel
set_option maxRecDepth 20000 in
theorem ggX10_noise_X10_in : GoodIn wsX10_noise wsX10_in := goodIn_r _ [7] (by decide +kernel) (by decide +kernel)
set_option maxRecDepth 20000 in
theorem gX10_noise_X10_in : GoodIn wsX10_noise (va_wsS RX10 30 yX10_in wsX10_in) := goodIn_app (goodIn_of _ (by decide +kernel)) ggX10_noise_X10_in
set_option maxRecDepth 20000 in
theorem ggX10_noise_X10_records : GoodIn wsX10_noise wsX10_records := goodIn_r _ [11, 12, 13, 14, 15, 6, 16, 3, 17, 18, 19, 20, 21, 22, 23, 24, 25] (by decide +kernel) (by decide +kernel)
set_option maxRecDepth 20000 in
theorem gX10_noise_X10_records : GoodIn wsX10_noise (wsV RX10 65 RX10 yX10_records wsX10_records) := goodIn_app (goodIn_of _ (by decide +kernel)) ggX10_noise_X10_records
theorem dX10_noise_0 : decode cX10_noise 0 = .ok (.iload_n 1, 1) := by decide +kernel
theorem dX10_noise_1 : decode cX10_noise 1 = .ok (.iconst 1, 1) := by decide +kernel
theorem dX10_noise_2 : decode cX10_noise 2 = .ok (.ldc 68, 2) := by decide +kernel
theorem dX10_noise_4 : decode cX10_noise 4 = .ok (.invokestatic 30, 3) := by decide +kernel
theorem dX10_noise_7 : decode cX10_noise 7 = .ok (.ifCond .ne 6, 3) := by decide +kernel
theorem dX10_noise_10 : decode cX10_noise 10 = .ok (.ldc 59, 2) := by decide +kernel
theorem dX10_noise_12 : decode cX10_noise 12 = .ok (.ireturn, 1) := by decide +kernel
theorem dX10_noise_13 : decode cX10_noise 13 = .ok (.aload_n 0, 1) := by decide +kernel
theorem dX10_noise_14 : decode cX10_noise 14 = .ok (.invokevirtual 65, 3) := by decide +kernel
theorem dX10_noise_17 : decode cX10_noise 17 = .ok (.aload_n 0, 1) := by decide +kernel
theorem dX10_noise_18 : decode cX10_noise 18 = .ok (.getfield 7, 3) := by decide +kernel
theorem dX10_noise_21 : decode cX10_noise 21 = .ok (.iconst 0, 1) := by decide +kernel
theorem dX10_noise_22 : decode cX10_noise 22 = .ok (.iaload, 1) := by decide +kernel
theorem dX10_noise_23 : decode cX10_noise 23 = .ok (.istore_n 2, 1) := by decide +kernel
theorem dX10_noise_24 : decode cX10_noise 24 = .ok (.aload_n 0, 1) := by decide +kernel
theorem dX10_noise_25 : decode cX10_noise 25 = .ok (.getfield 7, 3) := by decide +kernel
theorem dX10_noise_28 : decode cX10_noise 28 = .ok (.iconst 0, 1) := by decide +kernel
theorem dX10_noise_29 : decode cX10_noise 29 = .ok (.iload_n 1, 1) := by decide +kernel
theorem dX10_noise_30 : decode cX10_noise 30 = .ok (.iastore, 1) := by decide +kernel
theorem dX10_noise_31 : decode cX10_noise 31 = .ok (.iload_n 2, 1) := by decide +kernel
theorem dX10_noise_32 : decode cX10_noise 32 = .ok (.ireturn, 1) := by decide +kernel
set_option maxRecDepth 20000 in
theorem ggX10_sample_X10_in : GoodIn wsX10_sample wsX10_in := goodIn_r _ [5] (by decide +kernel) (by decide +kernel)
set_option maxRecDepth 20000 in
theorem gX10_sample_X10_in : GoodIn wsX10_sample (va_wsS RX10 30 yX10_in wsX10_in) := goodIn_app (goodIn_of _ (by decide +kernel)) ggX10_sample_X10_in
set_option maxRecDepth 20000 in
theorem ggX10_sample_X10_records : GoodIn wsX10_sample wsX10_records := goodIn_r _ [9, 10, 11, 12, 13, 4, 14, 15, 53, 54, 55, 56, 57, 58, 59, 60, 61] (by decide +kernel) (by decide +kernel)
set_option maxRecDepth 20000 in
theorem gX10_sample_X10_records : GoodIn wsX10_sample (wsV RX10 65 RX10 yX10_records wsX10_records) := goodIn_app (goodIn_of _ (by decide +kernel)) ggX10_sample_X10_records
set_option maxRecDepth 20000 in
theorem ggX10_sample_X10_makes : GoodIn wsX10_sample wsX10_makes := goodIn_r _ [19, 15, 20, 21, 22, 4, 23, 24, 25, 26, 27, 28, 29, 30, 31, 32, 33, 34, 35, 36, 37, 38, 39, 40, 41, 42, 43, 44, 45, 46, 47, 48, 2, 3, 5, 49, 50, 51, 52, 53, 54, 55, 56, 57, 58, 59, 60, 61] (by decide +kernel) (by decide +kernel)
set_option maxRecDepth 20000 in
theorem gX10_sample_X10_makes : GoodIn wsX10_sample (wsV RX10 69 RX10 yX10_makes wsX10_makes) := goodIn_app (goodIn_of _ (by decide +kernel)) ggX10_sample_X10_makes
theorem dX10_sample_0 : decode cX10_sample 0 = .ok (.iload_n 1, 1) := by decide +kernel
theorem dX10_sample_1 : decode cX10_sample 1 = .ok (.iconst 1, 1) := by decide +kernel
theorem dX10_sample_2 : decode cX10_sample 2 = .ok (.sipush 300, 3) := by decide +kernel
theorem dX10_sample_5 : decode cX10_sample 5 = .ok (.invokestatic 30, 3) := by decide +kernel
theorem dX10_sample_8 : decode cX10_sample 8 = .ok (.ifCond .ne 6, 3) := by decide +kernel
theorem dX10_sample_11 : decode cX10_sample 11 = .ok (.ldc 59, 2) := by decide +kernel
theorem dX10_sample_13 : decode cX10_sample 13 = .ok (.ireturn, 1) := by decide +kernel
theorem dX10_sample_14 : decode cX10_sample 14 = .ok (.aload_n 0, 1) := by decide +kernel
theorem dX10_sample_15 : decode cX10_sample 15 = .ok (.invokevirtual 65, 3) := by decide +kernel
theorem dX10_sample_18 : decode cX10_sample 18 = .ok (.aload_n 0, 1) := by decide +kernel
theorem dX10_sample_19 : decode cX10_sample 19 = .ok (.iconst 0, 1) := by decide +kernel
theorem dX10_sample_20 : decode cX10_sample 20 = .ok (.iload_n 1, 1) := by decide +kernel
theorem dX10_sample_21 : decode cX10_sample 21 = .ok (.invokevirtual 69, 3) := by decide +kernel
theorem dX10_sample_24 : decode cX10_sample 24 = .ok (.ireturn, 1) := by decide +kernel
set_option maxRecDepth 20000 in
theorem ggX10_draw_X10_copies : GoodIn wsX10_draw wsX10_copies := goodIn_r _ [5, 6, 21, 22, 23, 24, 25, 26, 27, 28, 29] (by decide +kernel) (by decide +kernel)
set_option maxRecDepth 20000 in
theorem gX10_draw_X10_copies : GoodIn wsX10_draw (wsV RX10 21 RX10 yX10_copies wsX10_copies) := goodIn_app (goodIn_of _ (by decide +kernel)) ggX10_draw_X10_copies
set_option maxRecDepth 20000 in
theorem ggX10_draw_X10_draws : GoodIn wsX10_draw wsX10_draws := goodIn_r _ [10, 11, 6, 12, 13, 14, 4, 15, 21, 22, 23, 24, 25, 26, 27, 28, 29] (by decide +kernel) (by decide +kernel)
set_option maxRecDepth 20000 in
theorem gX10_draw_X10_draws : GoodIn wsX10_draw (wsV RX10 72 RX10 yX10_draws wsX10_draws) := goodIn_app (goodIn_of _ (by decide +kernel)) ggX10_draw_X10_draws
set_option maxRecDepth 20000 in
theorem ggX10_draw_X10_records : GoodIn wsX10_draw wsX10_records := goodIn_r _ [19, 20, 1, 2, 3, 4, 5, 6, 21, 22, 23, 24, 25, 26, 27, 28, 29] (by decide +kernel) (by decide +kernel)
set_option maxRecDepth 20000 in
theorem gX10_draw_X10_records : GoodIn wsX10_draw (wsV RX10 65 RX10 yX10_records wsX10_records) := goodIn_app (goodIn_of _ (by decide +kernel)) ggX10_draw_X10_records
theorem dX10_draw_0 : decode cX10_draw 0 = .ok (.aload_n 0, 1) := by decide +kernel
theorem dX10_draw_1 : decode cX10_draw 1 = .ok (.iconst 0, 1) := by decide +kernel
theorem dX10_draw_2 : decode cX10_draw 2 = .ok (.iconst 5, 1) := by decide +kernel
theorem dX10_draw_3 : decode cX10_draw 3 = .ok (.invokevirtual 21, 3) := by decide +kernel
theorem dX10_draw_6 : decode cX10_draw 6 = .ok (.aload_n 0, 1) := by decide +kernel
theorem dX10_draw_7 : decode cX10_draw 7 = .ok (.iconst 5, 1) := by decide +kernel
theorem dX10_draw_8 : decode cX10_draw 8 = .ok (.iload_n 1, 1) := by decide +kernel
theorem dX10_draw_9 : decode cX10_draw 9 = .ok (.invokevirtual 72, 3) := by decide +kernel
theorem dX10_draw_12 : decode cX10_draw 12 = .ok (.istore_n 2, 1) := by decide +kernel
theorem dX10_draw_13 : decode cX10_draw 13 = .ok (.iload_n 2, 1) := by decide +kernel
theorem dX10_draw_14 : decode cX10_draw 14 = .ok (.ifCond .lt 13, 3) := by decide +kernel
theorem dX10_draw_17 : decode cX10_draw 17 = .ok (.aload_n 0, 1) := by decide +kernel
theorem dX10_draw_18 : decode cX10_draw 18 = .ok (.invokevirtual 65, 3) := by decide +kernel
theorem dX10_draw_21 : decode cX10_draw 21 = .ok (.aload_n 0, 1) := by decide +kernel
theorem dX10_draw_22 : decode cX10_draw 22 = .ok (.iconst 5, 1) := by decide +kernel
theorem dX10_draw_23 : decode cX10_draw 23 = .ok (.iconst 0, 1) := by decide +kernel
theorem dX10_draw_24 : decode cX10_draw 24 = .ok (.invokevirtual 21, 3) := by decide +kernel
theorem dX10_draw_27 : decode cX10_draw 27 = .ok (.iload_n 2, 1) := by decide +kernel
theorem dX10_draw_28 : decode cX10_draw 28 = .ok (.ireturn, 1) := by decide +kernel
set_option maxRecDepth 20000 in
theorem ggX10_restart_X10_records : GoodIn wsX10_restart wsX10_records := goodIn_r _ [5, 6, 7, 8, 9, 4, 10, 11, 16, 17, 18, 19, 20, 21, 22, 23, 24] (by decide +kernel) (by decide +kernel)
set_option maxRecDepth 20000 in
theorem gX10_restart_X10_records : GoodIn wsX10_restart (wsV RX10 65 RX10 yX10_records wsX10_records) := goodIn_app (goodIn_of _ (by decide +kernel)) ggX10_restart_X10_records
set_option maxRecDepth 20000 in
theorem ggX10_restart_X10_starts : GoodIn wsX10_restart wsX10_starts := goodIn_r _ [15, 11, 16, 17, 18, 19, 20, 21, 22, 23, 24] (by decide +kernel) (by decide +kernel)
set_option maxRecDepth 20000 in
theorem gX10_restart_X10_starts : GoodIn wsX10_restart (wsV RX10 75 RX10 yX10_starts wsX10_starts) := goodIn_app (goodIn_of _ (by decide +kernel)) ggX10_restart_X10_starts
theorem dX10_restart_0 : decode cX10_restart 0 = .ok (.aload_n 0, 1) := by decide +kernel
theorem dX10_restart_1 : decode cX10_restart 1 = .ok (.invokevirtual 65, 3) := by decide +kernel
theorem dX10_restart_4 : decode cX10_restart 4 = .ok (.aload_n 0, 1) := by decide +kernel
theorem dX10_restart_5 : decode cX10_restart 5 = .ok (.iconst 0, 1) := by decide +kernel
theorem dX10_restart_6 : decode cX10_restart 6 = .ok (.invokevirtual 75, 3) := by decide +kernel
theorem dX10_restart_9 : decode cX10_restart 9 = .ok (.ireturn, 1) := by decide +kernel
set_option maxRecDepth 20000 in
theorem ggX10_set_X10_in : GoodIn wsX10_set wsX10_in := goodIn_r _ [6] (by decide +kernel) (by decide +kernel)
set_option maxRecDepth 20000 in
theorem gX10_set_X10_in : GoodIn wsX10_set (va_wsS RX10 30 yX10_in wsX10_in) := goodIn_app (goodIn_of _ (by decide +kernel)) ggX10_set_X10_in
set_option maxRecDepth 20000 in
theorem ggX10_set_X10_records : GoodIn wsX10_set wsX10_records := goodIn_r _ [10, 11, 12, 13, 14, 5, 15, 2, 16, 17, 18, 19, 20, 21, 22, 23, 24] (by decide +kernel) (by decide +kernel)
set_option maxRecDepth 20000 in
theorem gX10_set_X10_records : GoodIn wsX10_set (wsV RX10 65 RX10 yX10_records wsX10_records) := goodIn_app (goodIn_of _ (by decide +kernel)) ggX10_set_X10_records
theorem dX10_set_0 : decode cX10_set 0 = .ok (.iload_n 1, 1) := by decide +kernel
theorem dX10_set_1 : decode cX10_set 1 = .ok (.ifCond .ne 14, 3) := by decide +kernel
theorem dX10_set_4 : decode cX10_set 4 = .ok (.iload_n 2, 1) := by decide +kernel
theorem dX10_set_5 : decode cX10_set 5 = .ok (.iconst 1, 1) := by decide +kernel
theorem dX10_set_6 : decode cX10_set 6 = .ok (.sipush 500, 3) := by decide +kernel
theorem dX10_set_9 : decode cX10_set 9 = .ok (.invokestatic 30, 3) := by decide +kernel
theorem dX10_set_12 : decode cX10_set 12 = .ok (.goto 53, 3) := by decide +kernel
theorem dX10_set_15 : decode cX10_set 15 = .ok (.iload_n 1, 1) := by decide +kernel
theorem dX10_set_16 : decode cX10_set 16 = .ok (.iconst 1, 1) := by decide +kernel
theorem dX10_set_17 : decode cX10_set 17 = .ok (.if_icmp .ne 13, 3) := by decide +kernel
theorem dX10_set_20 : decode cX10_set 20 = .ok (.iload_n 2, 1) := by decide +kernel
theorem dX10_set_21 : decode cX10_set 21 = .ok (.iconst 0, 1) := by decide +kernel
theorem dX10_set_22 : decode cX10_set 22 = .ok (.bipush 50, 2) := by decide +kernel
theorem dX10_set_24 : decode cX10_set 24 = .ok (.invokestatic 30, 3) := by decide +kernel
theorem dX10_set_27 : decode cX10_set 27 = .ok (.goto 38, 3) := by decide +kernel
theorem dX10_set_30 : decode cX10_set 30 = .ok (.iload_n 1, 1) := by decide +kernel
theorem dX10_set_31 : decode cX10_set 31 = .ok (.iconst 2, 1) := by decide +kernel
theorem dX10_set_32 : decode cX10_set 32 = .ok (.if_icmp .ne 13, 3) := by decide +kernel
theorem dX10_set_35 : decode cX10_set 35 = .ok (.iload_n 2, 1) := by decide +kernel
theorem dX10_set_36 : decode cX10_set 36 = .ok (.iconst 2, 1) := by decide +kernel
theorem dX10_set_37 : decode cX10_set 37 = .ok (.bipush 40, 2) := by decide +kernel
theorem dX10_set_39 : decode cX10_set 39 = .ok (.invokestatic 30, 3) := by decide +kernel
theorem dX10_set_42 : decode cX10_set 42 = .ok (.goto 23, 3) := by decide +kernel
theorem dX10_set_45 : decode cX10_set 45 = .ok (.iload_n 1, 1) := by decide +kernel
theorem dX10_set_46 : decode cX10_set 46 = .ok (.iconst 3, 1) := by decide +kernel
theorem dX10_set_47 : decode cX10_set 47 = .ok (.if_icmp .ne 17, 3) := by decide +kernel
theorem dX10_set_50 : decode cX10_set 50 = .ok (.iload_n 2, 1) := by decide +kernel
theorem dX10_set_51 : decode cX10_set 51 = .ok (.iconst 0, 1) := by decide +kernel
theorem dX10_set_52 : decode cX10_set 52 = .ok (.bipush 16, 2) := by decide +kernel
theorem dX10_set_54 : decode cX10_set 54 = .ok (.invokestatic 30, 3) := by decide +kernel
theorem dX10_set_57 : decode cX10_set 57 = .ok (.ifCond .eq 7, 3) := by decide +kernel
theorem dX10_set_60 : decode cX10_set 60 = .ok (.iconst 1, 1) := by decide +kernel
theorem dX10_set_61 : decode cX10_set 61 = .ok (.goto 4, 3) := by decide +kernel
theorem dX10_set_64 : decode cX10_set 64 = .ok (.iconst 0, 1) := by decide +kernel
theorem dX10_set_65 : decode cX10_set 65 = .ok (.istore_n 3, 1) := by decide +kernel
theorem dX10_set_66 : decode cX10_set 66 = .ok (.iload_n 3, 1) := by decide +kernel
theorem dX10_set_67 : decode cX10_set 67 = .ok (.ifCond .ne 6, 3) := by decide +kernel
theorem dX10_set_70 : decode cX10_set 70 = .ok (.ldc 59, 2) := by decide +kernel
theorem dX10_set_72 : decode cX10_set 72 = .ok (.ireturn, 1) := by decide +kernel
theorem dX10_set_73 : decode cX10_set 73 = .ok (.aload_n 0, 1) := by decide +kernel
theorem dX10_set_74 : decode cX10_set 74 = .ok (.invokevirtual 65, 3) := by decide +kernel
theorem dX10_set_77 : decode cX10_set 77 = .ok (.aload_n 0, 1) := by decide +kernel
theorem dX10_set_78 : decode cX10_set 78 = .ok (.getfield 7, 3) := by decide +kernel
theorem dX10_set_81 : decode cX10_set 81 = .ok (.bipush 7, 2) := by decide +kernel
theorem dX10_set_83 : decode cX10_set 83 = .ok (.iload_n 1, 1) := by decide +kernel
theorem dX10_set_84 : decode cX10_set 84 = .ok (.iadd, 1) := by decide +kernel
theorem dX10_set_85 : decode cX10_set 85 = .ok (.iaload, 1) := by decide +kernel
theorem dX10_set_86 : decode cX10_set 86 = .ok (.istore 4, 2) := by decide +kernel
theorem dX10_set_88 : decode cX10_set 88 = .ok (.aload_n 0, 1) := by decide +kernel
theorem dX10_set_89 : decode cX10_set 89 = .ok (.getfield 7, 3) := by decide +kernel
theorem dX10_set_92 : decode cX10_set 92 = .ok (.bipush 7, 2) := by decide +kernel
theorem dX10_set_94 : decode cX10_set 94 = .ok (.iload_n 1, 1) := by decide +kernel
theorem dX10_set_95 : decode cX10_set 95 = .ok (.iadd, 1) := by decide +kernel
theorem dX10_set_96 : decode cX10_set 96 = .ok (.iload_n 2, 1) := by decide +kernel
theorem dX10_set_97 : decode cX10_set 97 = .ok (.iastore, 1) := by decide +kernel
theorem dX10_set_98 : decode cX10_set 98 = .ok (.iload 4, 2) := by decide +kernel
theorem dX10_set_100 : decode cX10_set 100 = .ok (.ireturn, 1) := by decide +kernel
set_option maxRecDepth 20000 in
theorem ggX10_ringOf_X10_in : GoodIn wsX10_ringOf wsX10_in := goodIn_r _ [6] (by decide +kernel) (by decide +kernel)
set_option maxRecDepth 20000 in
theorem gX10_ringOf_X10_in : GoodIn wsX10_ringOf (va_wsS RX10 30 yX10_in wsX10_in) := goodIn_app (goodIn_of _ (by decide +kernel)) ggX10_ringOf_X10_in
set_option maxRecDepth 20000 in
theorem ggX10_ringOf_X10_isHigh : GoodIn wsX10_ringOf wsX10_isHigh := goodIn_r _ [10, 2, 11, 12, 13, 14, 15, 16, 17, 18, 19] (by decide +kernel) (by decide +kernel)
set_option maxRecDepth 20000 in
theorem gX10_ringOf_X10_isHigh : GoodIn wsX10_ringOf (wsV RX10 41 RX10 yX10_isHigh wsX10_isHigh) := goodIn_app (goodIn_of _ (by decide +kernel)) ggX10_ringOf_X10_isHigh
theorem dX10_ringOf_0 : decode cX10_ringOf 0 = .ok (.iload_n 1, 1) := by decide +kernel
theorem dX10_ringOf_1 : decode cX10_ringOf 1 = .ok (.iconst 0, 1) := by decide +kernel
theorem dX10_ringOf_2 : decode cX10_ringOf 2 = .ok (.iconst 1, 1) := by decide +kernel
theorem dX10_ringOf_3 : decode cX10_ringOf 3 = .ok (.invokestatic 30, 3) := by decide +kernel
theorem dX10_ringOf_6 : decode cX10_ringOf 6 = .ok (.ifCond .eq 12, 3) := by decide +kernel
theorem dX10_ringOf_9 : decode cX10_ringOf 9 = .ok (.iload_n 2, 1) := by decide +kernel
theorem dX10_ringOf_10 : decode cX10_ringOf 10 = .ok (.iconst 0, 1) := by decide +kernel
theorem dX10_ringOf_11 : decode cX10_ringOf 11 = .ok (.iconst 3, 1) := by decide +kernel
theorem dX10_ringOf_12 : decode cX10_ringOf 12 = .ok (.invokestatic 30, 3) := by decide +kernel
theorem dX10_ringOf_15 : decode cX10_ringOf 15 = .ok (.ifCond .ne 6, 3) := by decide +kernel
theorem dX10_ringOf_18 : decode cX10_ringOf 18 = .ok (.ldc 59, 2) := by decide +kernel
theorem dX10_ringOf_20 : decode cX10_ringOf 20 = .ok (.ireturn, 1) := by decide +kernel
theorem dX10_ringOf_21 : decode cX10_ringOf 21 = .ok (.iload_n 2, 1) := by decide +kernel
theorem dX10_ringOf_22 : decode cX10_ringOf 22 = .ok (.iconst 3, 1) := by decide +kernel
theorem dX10_ringOf_23 : decode cX10_ringOf 23 = .ok (.if_icmp .ne 20, 3) := by decide +kernel
theorem dX10_ringOf_26 : decode cX10_ringOf 26 = .ok (.aload_n 0, 1) := by decide +kernel
theorem dX10_ringOf_27 : decode cX10_ringOf 27 = .ok (.iconst 0, 1) := by decide +kernel
theorem dX10_ringOf_28 : decode cX10_ringOf 28 = .ok (.iload_n 1, 1) := by decide +kernel
theorem dX10_ringOf_29 : decode cX10_ringOf 29 = .ok (.invokevirtual 41, 3) := by decide +kernel
theorem dX10_ringOf_32 : decode cX10_ringOf 32 = .ok (.ifCond .eq 7, 3) := by decide +kernel
theorem dX10_ringOf_35 : decode cX10_ringOf 35 = .ok (.iconst 1, 1) := by decide +kernel
theorem dX10_ringOf_36 : decode cX10_ringOf 36 = .ok (.goto 19, 3) := by decide +kernel
theorem dX10_ringOf_39 : decode cX10_ringOf 39 = .ok (.iconst 0, 1) := by decide +kernel
theorem dX10_ringOf_40 : decode cX10_ringOf 40 = .ok (.goto 15, 3) := by decide +kernel
theorem dX10_ringOf_43 : decode cX10_ringOf 43 = .ok (.aload_n 0, 1) := by decide +kernel
theorem dX10_ringOf_44 : decode cX10_ringOf 44 = .ok (.getfield 7, 3) := by decide +kernel
theorem dX10_ringOf_47 : decode cX10_ringOf 47 = .ok (.iconst 1, 1) := by decide +kernel
theorem dX10_ringOf_48 : decode cX10_ringOf 48 = .ok (.iconst 2, 1) := by decide +kernel
theorem dX10_ringOf_49 : decode cX10_ringOf 49 = .ok (.iload_n 2, 1) := by decide +kernel
theorem dX10_ringOf_50 : decode cX10_ringOf 50 = .ok (.imul, 1) := by decide +kernel
theorem dX10_ringOf_51 : decode cX10_ringOf 51 = .ok (.iadd, 1) := by decide +kernel
theorem dX10_ringOf_52 : decode cX10_ringOf 52 = .ok (.iload_n 1, 1) := by decide +kernel
theorem dX10_ringOf_53 : decode cX10_ringOf 53 = .ok (.iadd, 1) := by decide +kernel
theorem dX10_ringOf_54 : decode cX10_ringOf 54 = .ok (.iaload, 1) := by decide +kernel
theorem dX10_ringOf_55 : decode cX10_ringOf 55 = .ok (.ireturn, 1) := by decide +kernel
set_option maxRecDepth 20000 in
theorem ggX10_source_X10_locks : GoodIn wsX10_source wsX10_locks := goodIn_r _ [8, 1, 9, 10, 11, 12, 13, 14, 15, 16, 17] (by decide +kernel) (by decide +kernel)
set_option maxRecDepth 20000 in
theorem gX10_source_X10_locks : GoodIn wsX10_source (wsV RX10 37 RX10 yX10_locks wsX10_locks) := goodIn_app (goodIn_of _ (by decide +kernel)) ggX10_source_X10_locks
theorem dX10_source_0 : decode cX10_source 0 = .ok (.iload_n 1, 1) := by decide +kernel
theorem dX10_source_1 : decode cX10_source 1 = .ok (.tableswitch 186 0 9 #[55, 63, 87, 110, 118, 126, 134, 142, 165, 179], 55) := by decide +kernel
theorem dX10_source_56 : decode cX10_source 56 = .ok (.aload_n 0, 1) := by decide +kernel
theorem dX10_source_57 : decode cX10_source 57 = .ok (.getfield 7, 3) := by decide +kernel
theorem dX10_source_60 : decode cX10_source 60 = .ok (.bipush 11, 2) := by decide +kernel
theorem dX10_source_62 : decode cX10_source 62 = .ok (.iaload, 1) := by decide +kernel
theorem dX10_source_63 : decode cX10_source 63 = .ok (.ireturn, 1) := by decide +kernel
theorem dX10_source_64 : decode cX10_source 64 = .ok (.aload_n 0, 1) := by decide +kernel
theorem dX10_source_65 : decode cX10_source 65 = .ok (.getfield 7, 3) := by decide +kernel
theorem dX10_source_68 : decode cX10_source 68 = .ok (.bipush 11, 2) := by decide +kernel
theorem dX10_source_70 : decode cX10_source 70 = .ok (.iaload, 1) := by decide +kernel
theorem dX10_source_71 : decode cX10_source 71 = .ok (.iconst 2, 1) := by decide +kernel
theorem dX10_source_72 : decode cX10_source 72 = .ok (.if_icmp .ne 13, 3) := by decide +kernel
theorem dX10_source_75 : decode cX10_source 75 = .ok (.aload_n 0, 1) := by decide +kernel
theorem dX10_source_76 : decode cX10_source 76 = .ok (.getfield 7, 3) := by decide +kernel
theorem dX10_source_79 : decode cX10_source 79 = .ok (.bipush 12, 2) := by decide +kernel
theorem dX10_source_81 : decode cX10_source 81 = .ok (.iaload, 1) := by decide +kernel
theorem dX10_source_82 : decode cX10_source 82 = .ok (.goto 5, 3) := by decide +kernel
theorem dX10_source_85 : decode cX10_source 85 = .ok (.ldc 78, 2) := by decide +kernel
theorem dX10_source_87 : decode cX10_source 87 = .ok (.ireturn, 1) := by decide +kernel
theorem dX10_source_88 : decode cX10_source 88 = .ok (.aload_n 0, 1) := by decide +kernel
theorem dX10_source_89 : decode cX10_source 89 = .ok (.getfield 7, 3) := by decide +kernel
theorem dX10_source_92 : decode cX10_source 92 = .ok (.bipush 11, 2) := by decide +kernel
theorem dX10_source_94 : decode cX10_source 94 = .ok (.iaload, 1) := by decide +kernel
theorem dX10_source_95 : decode cX10_source 95 = .ok (.ifCond .ne 13, 3) := by decide +kernel
theorem dX10_source_98 : decode cX10_source 98 = .ok (.aload_n 0, 1) := by decide +kernel
theorem dX10_source_99 : decode cX10_source 99 = .ok (.getfield 7, 3) := by decide +kernel
theorem dX10_source_102 : decode cX10_source 102 = .ok (.bipush 13, 2) := by decide +kernel
theorem dX10_source_104 : decode cX10_source 104 = .ok (.iaload, 1) := by decide +kernel
theorem dX10_source_105 : decode cX10_source 105 = .ok (.goto 5, 3) := by decide +kernel
theorem dX10_source_108 : decode cX10_source 108 = .ok (.ldc 78, 2) := by decide +kernel
theorem dX10_source_110 : decode cX10_source 110 = .ok (.ireturn, 1) := by decide +kernel
theorem dX10_source_111 : decode cX10_source 111 = .ok (.aload_n 0, 1) := by decide +kernel
theorem dX10_source_112 : decode cX10_source 112 = .ok (.getfield 7, 3) := by decide +kernel
theorem dX10_source_115 : decode cX10_source 115 = .ok (.bipush 14, 2) := by decide +kernel
theorem dX10_source_117 : decode cX10_source 117 = .ok (.iaload, 1) := by decide +kernel
theorem dX10_source_118 : decode cX10_source 118 = .ok (.ireturn, 1) := by decide +kernel
theorem dX10_source_119 : decode cX10_source 119 = .ok (.aload_n 0, 1) := by decide +kernel
theorem dX10_source_120 : decode cX10_source 120 = .ok (.getfield 7, 3) := by decide +kernel
theorem dX10_source_123 : decode cX10_source 123 = .ok (.bipush 16, 2) := by decide +kernel
theorem dX10_source_125 : decode cX10_source 125 = .ok (.iaload, 1) := by decide +kernel
theorem dX10_source_126 : decode cX10_source 126 = .ok (.ireturn, 1) := by decide +kernel
theorem dX10_source_127 : decode cX10_source 127 = .ok (.aload_n 0, 1) := by decide +kernel
theorem dX10_source_128 : decode cX10_source 128 = .ok (.getfield 7, 3) := by decide +kernel
theorem dX10_source_131 : decode cX10_source 131 = .ok (.bipush 17, 2) := by decide +kernel
theorem dX10_source_133 : decode cX10_source 133 = .ok (.iaload, 1) := by decide +kernel
theorem dX10_source_134 : decode cX10_source 134 = .ok (.ireturn, 1) := by decide +kernel
theorem dX10_source_135 : decode cX10_source 135 = .ok (.aload_n 0, 1) := by decide +kernel
theorem dX10_source_136 : decode cX10_source 136 = .ok (.getfield 7, 3) := by decide +kernel
theorem dX10_source_139 : decode cX10_source 139 = .ok (.bipush 18, 2) := by decide +kernel
theorem dX10_source_141 : decode cX10_source 141 = .ok (.iaload, 1) := by decide +kernel
theorem dX10_source_142 : decode cX10_source 142 = .ok (.ireturn, 1) := by decide +kernel
theorem dX10_source_143 : decode cX10_source 143 = .ok (.aload_n 0, 1) := by decide +kernel
theorem dX10_source_144 : decode cX10_source 144 = .ok (.getfield 7, 3) := by decide +kernel
theorem dX10_source_147 : decode cX10_source 147 = .ok (.bipush 19, 2) := by decide +kernel
theorem dX10_source_149 : decode cX10_source 149 = .ok (.iaload, 1) := by decide +kernel
theorem dX10_source_150 : decode cX10_source 150 = .ok (.ifCond .ge 8, 3) := by decide +kernel
theorem dX10_source_153 : decode cX10_source 153 = .ok (.ldc 78, 2) := by decide +kernel
theorem dX10_source_155 : decode cX10_source 155 = .ok (.goto 10, 3) := by decide +kernel
theorem dX10_source_158 : decode cX10_source 158 = .ok (.aload_n 0, 1) := by decide +kernel
theorem dX10_source_159 : decode cX10_source 159 = .ok (.getfield 7, 3) := by decide +kernel
theorem dX10_source_162 : decode cX10_source 162 = .ok (.bipush 19, 2) := by decide +kernel
theorem dX10_source_164 : decode cX10_source 164 = .ok (.iaload, 1) := by decide +kernel
theorem dX10_source_165 : decode cX10_source 165 = .ok (.ireturn, 1) := by decide +kernel
theorem dX10_source_166 : decode cX10_source 166 = .ok (.aload_n 0, 1) := by decide +kernel
theorem dX10_source_167 : decode cX10_source 167 = .ok (.iconst 0, 1) := by decide +kernel
theorem dX10_source_168 : decode cX10_source 168 = .ok (.invokevirtual 37, 3) := by decide +kernel
theorem dX10_source_171 : decode cX10_source 171 = .ok (.ifCond .eq 7, 3) := by decide +kernel
theorem dX10_source_174 : decode cX10_source 174 = .ok (.iconst 1, 1) := by decide +kernel
theorem dX10_source_175 : decode cX10_source 175 = .ok (.goto 4, 3) := by decide +kernel
theorem dX10_source_178 : decode cX10_source 178 = .ok (.iconst 0, 1) := by decide +kernel
theorem dX10_source_179 : decode cX10_source 179 = .ok (.ireturn, 1) := by decide +kernel
theorem dX10_source_180 : decode cX10_source 180 = .ok (.aload_n 0, 1) := by decide +kernel
theorem dX10_source_181 : decode cX10_source 181 = .ok (.getfield 7, 3) := by decide +kernel
theorem dX10_source_184 : decode cX10_source 184 = .ok (.iconst 0, 1) := by decide +kernel
theorem dX10_source_185 : decode cX10_source 185 = .ok (.iaload, 1) := by decide +kernel
theorem dX10_source_186 : decode cX10_source 186 = .ok (.ireturn, 1) := by decide +kernel
theorem dX10_source_187 : decode cX10_source 187 = .ok (.ldc 59, 2) := by decide +kernel
theorem dX10_source_189 : decode cX10_source 189 = .ok (.ireturn, 1) := by decide +kernel
set_option maxRecDepth 20000 in
theorem ggX10_raw_X10_in : GoodIn wsX10_raw wsX10_in := goodIn_r _ [7] (by decide +kernel) (by decide +kernel)
set_option maxRecDepth 20000 in
theorem gX10_raw_X10_in : GoodIn wsX10_raw (va_wsS RX10 30 yX10_in wsX10_in) := goodIn_app (goodIn_of _ (by decide +kernel)) ggX10_raw_X10_in
theorem dX10_raw_0 : decode cX10_raw 0 = .ok (.iload_n 1, 1) := by decide +kernel
theorem dX10_raw_1 : decode cX10_raw 1 = .ok (.iconst 0, 1) := by decide +kernel
theorem dX10_raw_2 : decode cX10_raw 2 = .ok (.bipush 63, 2) := by decide +kernel
theorem dX10_raw_4 : decode cX10_raw 4 = .ok (.invokestatic 30, 3) := by decide +kernel
theorem dX10_raw_7 : decode cX10_raw 7 = .ok (.ifCond .ne 6, 3) := by decide +kernel
theorem dX10_raw_10 : decode cX10_raw 10 = .ok (.ldc 59, 2) := by decide +kernel
theorem dX10_raw_12 : decode cX10_raw 12 = .ok (.ireturn, 1) := by decide +kernel
theorem dX10_raw_13 : decode cX10_raw 13 = .ok (.iload_n 1, 1) := by decide +kernel
theorem dX10_raw_14 : decode cX10_raw 14 = .ok (.aload_n 0, 1) := by decide +kernel
theorem dX10_raw_15 : decode cX10_raw 15 = .ok (.getfield 7, 3) := by decide +kernel
theorem dX10_raw_18 : decode cX10_raw 18 = .ok (.bipush 28, 2) := by decide +kernel
theorem dX10_raw_20 : decode cX10_raw 20 = .ok (.iaload, 1) := by decide +kernel
theorem dX10_raw_21 : decode cX10_raw 21 = .ok (.if_icmp .ge 25, 3) := by decide +kernel
theorem dX10_raw_24 : decode cX10_raw 24 = .ok (.aload_n 0, 1) := by decide +kernel
theorem dX10_raw_25 : decode cX10_raw 25 = .ok (.getfield 7, 3) := by decide +kernel
theorem dX10_raw_28 : decode cX10_raw 28 = .ok (.bipush 29, 2) := by decide +kernel
theorem dX10_raw_30 : decode cX10_raw 30 = .ok (.aload_n 0, 1) := by decide +kernel
theorem dX10_raw_31 : decode cX10_raw 31 = .ok (.getfield 7, 3) := by decide +kernel
theorem dX10_raw_34 : decode cX10_raw 34 = .ok (.bipush 28, 2) := by decide +kernel
theorem dX10_raw_36 : decode cX10_raw 36 = .ok (.iaload, 1) := by decide +kernel
