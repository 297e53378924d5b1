set_option maxRecDepth 20000 in
theorem ggX8_init_X8_makesPlan : GoodIn wsX8_init wsX8_makesPlan := goodIn_r _ [29, 8, 30, 31, 32, 33, 34, 28, 35, 36, 37, 15, 16, 5, 38, 39, 40, 41, 9, 42, 43, 44, 45, 6, 11, 46, 47, 48, 49, 50, 51, 52, 13, 53, 54, 55, 56, 10, 7, 57, 58, 59, 60, 61, 62, 63, 64, 12, 14, 65, 66, 67, 68, 69, 70, 71, 72, 73, 74, 75, 76, 77, 78, 79, 80, 81, 82, 83, 84, 85, 86, 87, 88, 89, 90, 91, 92] (by decide +kernel) (by decide +kernel)
set_option maxRecDepth 20000 in
theorem gX8_init_X8_makesPlan : GoodIn wsX8_init (wsV RX8 71 RX8 yX8_makesPlan wsX8_makesPlan) := goodIn_app (goodIn_of _ (by decide +kernel)) ggX8_init_X8_makesPlan
theorem dX8_init_0 : decode cX8_init 0 = .ok (.aload_n 0, 1) := by decide +kernel
theorem dX8_init_1 : decode cX8_init 1 = .ok (.invokespecial 1, 3) := by decide +kernel
theorem dX8_init_4 : decode cX8_init 4 = .ok (.aload_n 0, 1) := by decide +kernel
theorem dX8_init_5 : decode cX8_init 5 = .ok (.bipush 24, 2) := by decide +kernel
theorem dX8_init_7 : decode cX8_init 7 = .ok (.newarray .int, 2) := by decide +kernel
theorem dX8_init_9 : decode cX8_init 9 = .ok (.putfield 7, 3) := by decide +kernel
theorem dX8_init_12 : decode cX8_init 12 = .ok (.aload_n 0, 1) := by decide +kernel
theorem dX8_init_13 : decode cX8_init 13 = .ok (.bipush 24, 2) := by decide +kernel
theorem dX8_init_15 : decode cX8_init 15 = .ok (.newarray .int, 2) := by decide +kernel
theorem dX8_init_17 : decode cX8_init 17 = .ok (.putfield 13, 3) := by decide +kernel
theorem dX8_init_20 : decode cX8_init 20 = .ok (.aload_n 0, 1) := by decide +kernel
theorem dX8_init_21 : decode cX8_init 21 = .ok (.sipush 1000, 3) := by decide +kernel
theorem dX8_init_24 : decode cX8_init 24 = .ok (.putfield 16, 3) := by decide +kernel
theorem dX8_init_27 : decode cX8_init 27 = .ok (.aload_n 0, 1) := by decide +kernel
theorem dX8_init_28 : decode cX8_init 28 = .ok (.bipush 8, 2) := by decide +kernel
theorem dX8_init_30 : decode cX8_init 30 = .ok (.newarray .int, 2) := by decide +kernel
theorem dX8_init_32 : decode cX8_init 32 = .ok (.putfield 20, 3) := by decide +kernel
theorem dX8_init_35 : decode cX8_init 35 = .ok (.aload_n 0, 1) := by decide +kernel
theorem dX8_init_36 : decode cX8_init 36 = .ok (.bipush 8, 2) := by decide +kernel
theorem dX8_init_38 : decode cX8_init 38 = .ok (.newarray .int, 2) := by decide +kernel
theorem dX8_init_40 : decode cX8_init 40 = .ok (.putfield 23, 3) := by decide +kernel
theorem dX8_init_43 : decode cX8_init 43 = .ok (.aload_n 0, 1) := by decide +kernel
theorem dX8_init_44 : decode cX8_init 44 = .ok (.bipush 8, 2) := by decide +kernel
theorem dX8_init_46 : decode cX8_init 46 = .ok (.newarray .int, 2) := by decide +kernel
theorem dX8_init_48 : decode cX8_init 48 = .ok (.putfield 26, 3) := by decide +kernel
theorem dX8_init_51 : decode cX8_init 51 = .ok (.aload_n 0, 1) := by decide +kernel
theorem dX8_init_52 : decode cX8_init 52 = .ok (.bipush 8, 2) := by decide +kernel
theorem dX8_init_54 : decode cX8_init 54 = .ok (.newarray .int, 2) := by decide +kernel
theorem dX8_init_56 : decode cX8_init 56 = .ok (.putfield 29, 3) := by decide +kernel
theorem dX8_init_59 : decode cX8_init 59 = .ok (.aload_n 0, 1) := by decide +kernel
theorem dX8_init_60 : decode cX8_init 60 = .ok (.bipush 8, 2) := by decide +kernel
theorem dX8_init_62 : decode cX8_init 62 = .ok (.newarray .int, 2) := by decide +kernel
theorem dX8_init_64 : decode cX8_init 64 = .ok (.putfield 32, 3) := by decide +kernel
theorem dX8_init_67 : decode cX8_init 67 = .ok (.aload_n 0, 1) := by decide +kernel
theorem dX8_init_68 : decode cX8_init 68 = .ok (.bipush 80, 2) := by decide +kernel
theorem dX8_init_70 : decode cX8_init 70 = .ok (.newarray .int, 2) := by decide +kernel
theorem dX8_init_72 : decode cX8_init 72 = .ok (.putfield 35, 3) := by decide +kernel
theorem dX8_init_75 : decode cX8_init 75 = .ok (.aload_n 0, 1) := by decide +kernel
theorem dX8_init_76 : decode cX8_init 76 = .ok (.sipush 192, 3) := by decide +kernel
theorem dX8_init_79 : decode cX8_init 79 = .ok (.newarray .int, 2) := by decide +kernel
theorem dX8_init_81 : decode cX8_init 81 = .ok (.putfield 38, 3) := by decide +kernel
theorem dX8_init_84 : decode cX8_init 84 = .ok (.aload_n 0, 1) := by decide +kernel
theorem dX8_init_85 : decode cX8_init 85 = .ok (.bipush 10, 2) := by decide +kernel
theorem dX8_init_87 : decode cX8_init 87 = .ok (.newarray .int, 2) := by decide +kernel
theorem dX8_init_89 : decode cX8_init 89 = .ok (.putfield 41, 3) := by decide +kernel
theorem dX8_init_92 : decode cX8_init 92 = .ok (.aload_n 0, 1) := by decide +kernel
theorem dX8_init_93 : decode cX8_init 93 = .ok (.bipush 10, 2) := by decide +kernel
theorem dX8_init_95 : decode cX8_init 95 = .ok (.newarray .int, 2) := by decide +kernel
theorem dX8_init_97 : decode cX8_init 97 = .ok (.putfield 44, 3) := by decide +kernel
theorem dX8_init_100 : decode cX8_init 100 = .ok (.aload_n 0, 1) := by decide +kernel
theorem dX8_init_101 : decode cX8_init 101 = .ok (.bipush 10, 2) := by decide +kernel
theorem dX8_init_103 : decode cX8_init 103 = .ok (.newarray .int, 2) := by decide +kernel
theorem dX8_init_105 : decode cX8_init 105 = .ok (.putfield 47, 3) := by decide +kernel
theorem dX8_init_108 : decode cX8_init 108 = .ok (.aload_n 0, 1) := by decide +kernel
theorem dX8_init_109 : decode cX8_init 109 = .ok (.bipush 30, 2) := by decide +kernel
theorem dX8_init_111 : decode cX8_init 111 = .ok (.newarray .int, 2) := by decide +kernel
theorem dX8_init_113 : decode cX8_init 113 = .ok (.putfield 50, 3) := by decide +kernel
theorem dX8_init_116 : decode cX8_init 116 = .ok (.aload_n 0, 1) := by decide +kernel
theorem dX8_init_117 : decode cX8_init 117 = .ok (.bipush 31, 2) := by decide +kernel
theorem dX8_init_119 : decode cX8_init 119 = .ok (.newarray .int, 2) := by decide +kernel
theorem dX8_init_121 : decode cX8_init 121 = .ok (.putfield 53, 3) := by decide +kernel
theorem dX8_init_124 : decode cX8_init 124 = .ok (.aload_n 0, 1) := by decide +kernel
theorem dX8_init_125 : decode cX8_init 125 = .ok (.bipush 31, 2) := by decide +kernel
theorem dX8_init_127 : decode cX8_init 127 = .ok (.newarray .int, 2) := by decide +kernel
theorem dX8_init_129 : decode cX8_init 129 = .ok (.putfield 56, 3) := by decide +kernel
theorem dX8_init_132 : decode cX8_init 132 = .ok (.aload_n 0, 1) := by decide +kernel
theorem dX8_init_133 : decode cX8_init 133 = .ok (.bipush 31, 2) := by decide +kernel
theorem dX8_init_135 : decode cX8_init 135 = .ok (.newarray .int, 2) := by decide +kernel
theorem dX8_init_137 : decode cX8_init 137 = .ok (.putfield 59, 3) := by decide +kernel
theorem dX8_init_140 : decode cX8_init 140 = .ok (.aload_n 0, 1) := by decide +kernel
theorem dX8_init_141 : decode cX8_init 141 = .ok (.bipush 10, 2) := by decide +kernel
theorem dX8_init_143 : decode cX8_init 143 = .ok (.newarray .int, 2) := by decide +kernel
theorem dX8_init_145 : decode cX8_init 145 = .ok (.putfield 62, 3) := by decide +kernel
theorem dX8_init_148 : decode cX8_init 148 = .ok (.aload_n 0, 1) := by decide +kernel
theorem dX8_init_149 : decode cX8_init 149 = .ok (.bipush 10, 2) := by decide +kernel
theorem dX8_init_151 : decode cX8_init 151 = .ok (.newarray .int, 2) := by decide +kernel
theorem dX8_init_153 : decode cX8_init 153 = .ok (.putfield 65, 3) := by decide +kernel
theorem dX8_init_156 : decode cX8_init 156 = .ok (.aload_n 0, 1) := by decide +kernel
theorem dX8_init_157 : decode cX8_init 157 = .ok (.sipush 300, 3) := by decide +kernel
theorem dX8_init_160 : decode cX8_init 160 = .ok (.newarray .int, 2) := by decide +kernel
theorem dX8_init_162 : decode cX8_init 162 = .ok (.putfield 68, 3) := by decide +kernel
theorem dX8_init_165 : decode cX8_init 165 = .ok (.aload_n 0, 1) := by decide +kernel
theorem dX8_init_166 : decode cX8_init 166 = .ok (.invokevirtual 71, 3) := by decide +kernel
theorem dX8_init_169 : decode cX8_init 169 = .ok (.return_, 1) := by decide +kernel
theorem dX8_within_0 : decode cX8_within 0 = .ok (.iload_n 0, 1) := by decide +kernel
theorem dX8_within_1 : decode cX8_within 1 = .ok (.iload_n 1, 1) := by decide +kernel
theorem dX8_within_2 : decode cX8_within 2 = .ok (.if_icmp .lt 12, 3) := by decide +kernel
theorem dX8_within_5 : decode cX8_within 5 = .ok (.iload_n 0, 1) := by decide +kernel
theorem dX8_within_6 : decode cX8_within 6 = .ok (.iload_n 2, 1) := by decide +kernel
theorem dX8_within_7 : decode cX8_within 7 = .ok (.if_icmp .gt 7, 3) := by decide +kernel
theorem dX8_within_10 : decode cX8_within 10 = .ok (.iconst 1, 1) := by decide +kernel
theorem dX8_within_11 : decode cX8_within 11 = .ok (.goto 4, 3) := by decide +kernel
theorem dX8_within_14 : decode cX8_within 14 = .ok (.iconst 0, 1) := by decide +kernel
theorem dX8_within_15 : decode cX8_within 15 = .ok (.ireturn, 1) := by decide +kernel
theorem dX8_has_0 : decode cX8_has 0 = .ok (.iload_n 0, 1) := by decide +kernel
theorem dX8_has_1 : decode cX8_has 1 = .ok (.iload_n 1, 1) := by decide +kernel
theorem dX8_has_2 : decode cX8_has 2 = .ok (.ishr, 1) := by decide +kernel
theorem dX8_has_3 : decode cX8_has 3 = .ok (.iconst 1, 1) := by decide +kernel
theorem dX8_has_4 : decode cX8_has 4 = .ok (.iand, 1) := by decide +kernel
theorem dX8_has_5 : decode cX8_has 5 = .ok (.iconst 1, 1) := by decide +kernel
theorem dX8_has_6 : decode cX8_has 6 = .ok (.if_icmp .ne 7, 3) := by decide +kernel
theorem dX8_has_9 : decode cX8_has 9 = .ok (.iconst 1, 1) := by decide +kernel
theorem dX8_has_10 : decode cX8_has 10 = .ok (.goto 4, 3) := by decide +kernel
theorem dX8_has_13 : decode cX8_has 13 = .ok (.iconst 0, 1) := by decide +kernel
theorem dX8_has_14 : decode cX8_has 14 = .ok (.ireturn, 1) := by decide +kernel
set_option maxRecDepth 20000 in
theorem ggX8_isRoutine_X8_within : GoodIn wsX8_isRoutine wsX8_within := goodIn_r _ [4] (by decide +kernel) (by decide +kernel)
set_option maxRecDepth 20000 in
theorem gX8_isRoutine_X8_within : GoodIn wsX8_isRoutine (va_wsS RX8 74 yX8_within wsX8_within) := goodIn_app (goodIn_of _ (by decide +kernel)) ggX8_isRoutine_X8_within
theorem dX8_isRoutine_0 : decode cX8_isRoutine 0 = .ok (.iload_n 0, 1) := by decide +kernel
theorem dX8_isRoutine_1 : decode cX8_isRoutine 1 = .ok (.iconst 0, 1) := by decide +kernel
theorem dX8_isRoutine_2 : decode cX8_isRoutine 2 = .ok (.bipush 9, 2) := by decide +kernel
theorem dX8_isRoutine_4 : decode cX8_isRoutine 4 = .ok (.invokestatic 74, 3) := by decide +kernel
theorem dX8_isRoutine_7 : decode cX8_isRoutine 7 = .ok (.ireturn, 1) := by decide +kernel
set_option maxRecDepth 20000 in
theorem ggX8_isCall_X8_within : GoodIn wsX8_isCall wsX8_within := goodIn_r _ [5] (by decide +kernel) (by decide +kernel)
set_option maxRecDepth 20000 in
theorem gX8_isCall_X8_within : GoodIn wsX8_isCall (va_wsS RX8 74 yX8_within wsX8_within) := goodIn_app (goodIn_of _ (by decide +kernel)) ggX8_isCall_X8_within
theorem dX8_isCall_0 : decode cX8_isCall 0 = .ok (.iload_n 1, 1) := by decide +kernel
theorem dX8_isCall_1 : decode cX8_isCall 1 = .ok (.iconst 0, 1) := by decide +kernel
theorem dX8_isCall_2 : decode cX8_isCall 2 = .ok (.aload_n 0, 1) := by decide +kernel
theorem dX8_isCall_3 : decode cX8_isCall 3 = .ok (.getfield 78, 3) := by decide +kernel
theorem dX8_isCall_6 : decode cX8_isCall 6 = .ok (.iconst 1, 1) := by decide +kernel
theorem dX8_isCall_7 : decode cX8_isCall 7 = .ok (.isub, 1) := by decide +kernel
theorem dX8_isCall_8 : decode cX8_isCall 8 = .ok (.invokestatic 74, 3) := by decide +kernel
theorem dX8_isCall_11 : decode cX8_isCall 11 = .ok (.ireturn, 1) := by decide +kernel
set_option maxRecDepth 20000 in
theorem ggX8_add_X8_isRoutine : GoodIn wsX8_add wsX8_isRoutine := goodIn_r _ [7, 8, 9, 6, 10] (by decide +kernel) (by decide +kernel)
set_option maxRecDepth 20000 in
theorem gX8_add_X8_isRoutine : GoodIn wsX8_add (va_wsS RX8 81 yX8_isRoutine wsX8_isRoutine) := goodIn_app (goodIn_of _ (by decide +kernel)) ggX8_add_X8_isRoutine
theorem dX8_add_0 : decode cX8_add 0 = .ok (.iload_n 1, 1) := by decide +kernel
theorem dX8_add_1 : decode cX8_add 1 = .ok (.invokestatic 81, 3) := by decide +kernel
theorem dX8_add_4 : decode cX8_add 4 = .ok (.ifCond .eq 10, 3) := by decide +kernel
theorem dX8_add_7 : decode cX8_add 7 = .ok (.iload_n 2, 1) := by decide +kernel
theorem dX8_add_8 : decode cX8_add 8 = .ok (.invokestatic 81, 3) := by decide +kernel
theorem dX8_add_11 : decode cX8_add 11 = .ok (.ifCond .ne 5, 3) := by decide +kernel
theorem dX8_add_14 : decode cX8_add 14 = .ok (.iconst (-1), 1) := by decide +kernel
theorem dX8_add_15 : decode cX8_add 15 = .ok (.ireturn, 1) := by decide +kernel
theorem dX8_add_16 : decode cX8_add 16 = .ok (.aload_n 0, 1) := by decide +kernel
theorem dX8_add_17 : decode cX8_add 17 = .ok (.getfield 78, 3) := by decide +kernel
theorem dX8_add_20 : decode cX8_add 20 = .ok (.bipush 24, 2) := by decide +kernel
theorem dX8_add_22 : decode cX8_add 22 = .ok (.if_icmp .ne 6, 3) := by decide +kernel
theorem dX8_add_25 : decode cX8_add 25 = .ok (.bipush (-4), 2) := by decide +kernel
theorem dX8_add_27 : decode cX8_add 27 = .ok (.ireturn, 1) := by decide +kernel
theorem dX8_add_28 : decode cX8_add 28 = .ok (.aload_n 0, 1) := by decide +kernel
theorem dX8_add_29 : decode cX8_add 29 = .ok (.getfield 7, 3) := by decide +kernel
theorem dX8_add_32 : decode cX8_add 32 = .ok (.aload_n 0, 1) := by decide +kernel
theorem dX8_add_33 : decode cX8_add 33 = .ok (.getfield 78, 3) := by decide +kernel
theorem dX8_add_36 : decode cX8_add 36 = .ok (.iload_n 1, 1) := by decide +kernel
theorem dX8_add_37 : decode cX8_add 37 = .ok (.iastore, 1) := by decide +kernel
theorem dX8_add_38 : decode cX8_add 38 = .ok (.aload_n 0, 1) := by decide +kernel
theorem dX8_add_39 : decode cX8_add 39 = .ok (.getfield 13, 3) := by decide +kernel
theorem dX8_add_42 : decode cX8_add 42 = .ok (.aload_n 0, 1) := by decide +kernel
theorem dX8_add_43 : decode cX8_add 43 = .ok (.getfield 78, 3) := by decide +kernel
theorem dX8_add_46 : decode cX8_add 46 = .ok (.iload_n 2, 1) := by decide +kernel
theorem dX8_add_47 : decode cX8_add 47 = .ok (.iastore, 1) := by decide +kernel
theorem dX8_add_48 : decode cX8_add 48 = .ok (.aload_n 0, 1) := by decide +kernel
theorem dX8_add_49 : decode cX8_add 49 = .ok (.dup, 1) := by decide +kernel
theorem dX8_add_50 : decode cX8_add 50 = .ok (.getfield 78, 3) := by decide +kernel
theorem dX8_add_53 : decode cX8_add 53 = .ok (.iconst 1, 1) := by decide +kernel
theorem dX8_add_54 : decode cX8_add 54 = .ok (.iadd, 1) := by decide +kernel
theorem dX8_add_55 : decode cX8_add 55 = .ok (.putfield 78, 3) := by decide +kernel
theorem dX8_add_58 : decode cX8_add 58 = .ok (.aload_n 0, 1) := by decide +kernel
theorem dX8_add_59 : decode cX8_add 59 = .ok (.getfield 78, 3) := by decide +kernel
theorem dX8_add_62 : decode cX8_add 62 = .ok (.iconst 1, 1) := by decide +kernel
theorem dX8_add_63 : decode cX8_add 63 = .ok (.isub, 1) := by decide +kernel
theorem dX8_add_64 : decode cX8_add 64 = .ok (.ireturn, 1) := by decide +kernel
set_option maxRecDepth 20000 in
theorem ggX8_ofCall_X8_isCall : GoodIn wsX8_ofCall wsX8_isCall := goodIn_r _ [7, 8, 9, 10, 6, 11, 12, 13, 14, 15, 16, 17, 18, 19, 20, 21, 22, 23, 24, 25, 26, 27, 28, 29, 30, 31, 32, 33, 34, 35, 36, 37, 38, 39] (by decide +kernel) (by decide +kernel)
set_option maxRecDepth 20000 in
theorem gX8_ofCall_X8_isCall : GoodIn wsX8_ofCall (wsV RX8 85 RX8 yX8_isCall wsX8_isCall) := goodIn_app (goodIn_of _ (by decide +kernel)) ggX8_ofCall_X8_isCall
theorem dX8_ofCall_0 : decode cX8_ofCall 0 = .ok (.aload_n 0, 1) := by decide +kernel
theorem dX8_ofCall_1 : decode cX8_ofCall 1 = .ok (.iload_n 1, 1) := by decide +kernel
theorem dX8_ofCall_2 : decode cX8_ofCall 2 = .ok (.invokevirtual 85, 3) := by decide +kernel
theorem dX8_ofCall_5 : decode cX8_ofCall 5 = .ok (.ifCond .ne 5, 3) := by decide +kernel
theorem dX8_ofCall_8 : decode cX8_ofCall 8 = .ok (.iconst (-1), 1) := by decide +kernel
theorem dX8_ofCall_9 : decode cX8_ofCall 9 = .ok (.ireturn, 1) := by decide +kernel
theorem dX8_ofCall_10 : decode cX8_ofCall 10 = .ok (.iload_n 2, 1) := by decide +kernel
theorem dX8_ofCall_11 : decode cX8_ofCall 11 = .ok (.ifCond .ne 12, 3) := by decide +kernel
theorem dX8_ofCall_14 : decode cX8_ofCall 14 = .ok (.aload_n 0, 1) := by decide +kernel
theorem dX8_ofCall_15 : decode cX8_ofCall 15 = .ok (.getfield 7, 3) := by decide +kernel
theorem dX8_ofCall_18 : decode cX8_ofCall 18 = .ok (.iload_n 1, 1) := by decide +kernel
theorem dX8_ofCall_19 : decode cX8_ofCall 19 = .ok (.iaload, 1) := by decide +kernel
theorem dX8_ofCall_20 : decode cX8_ofCall 20 = .ok (.goto 19, 3) := by decide +kernel
theorem dX8_ofCall_23 : decode cX8_ofCall 23 = .ok (.iload_n 2, 1) := by decide +kernel
theorem dX8_ofCall_24 : decode cX8_ofCall 24 = .ok (.iconst 1, 1) := by decide +kernel
theorem dX8_ofCall_25 : decode cX8_ofCall 25 = .ok (.if_icmp .ne 12, 3) := by decide +kernel
theorem dX8_ofCall_28 : decode cX8_ofCall 28 = .ok (.aload_n 0, 1) := by decide +kernel
theorem dX8_ofCall_29 : decode cX8_ofCall 29 = .ok (.getfield 13, 3) := by decide +kernel
theorem dX8_ofCall_32 : decode cX8_ofCall 32 = .ok (.iload_n 1, 1) := by decide +kernel
theorem dX8_ofCall_33 : decode cX8_ofCall 33 = .ok (.iaload, 1) := by decide +kernel
theorem dX8_ofCall_34 : decode cX8_ofCall 34 = .ok (.goto 5, 3) := by decide +kernel
theorem dX8_ofCall_37 : decode cX8_ofCall 37 = .ok (.bipush (-2), 2) := by decide +kernel
theorem dX8_ofCall_39 : decode cX8_ofCall 39 = .ok (.ireturn, 1) := by decide +kernel
set_option maxRecDepth 20000 in
theorem ggX8_limit_X8_within : GoodIn wsX8_limit wsX8_within := goodIn_r _ [6] (by decide +kernel) (by decide +kernel)
set_option maxRecDepth 20000 in
theorem gX8_limit_X8_within : GoodIn wsX8_limit (va_wsS RX8 74 yX8_within wsX8_within) := goodIn_app (goodIn_of _ (by decide +kernel)) ggX8_limit_X8_within
theorem dX8_limit_0 : decode cX8_limit 0 = .ok (.iload_n 1, 1) := by decide +kernel
theorem dX8_limit_1 : decode cX8_limit 1 = .ok (.iconst 1, 1) := by decide +kernel
theorem dX8_limit_2 : decode cX8_limit 2 = .ok (.ldc 88, 2) := by decide +kernel
theorem dX8_limit_4 : decode cX8_limit 4 = .ok (.invokestatic 74, 3) := by decide +kernel
theorem dX8_limit_7 : decode cX8_limit 7 = .ok (.ifCond .ne 6, 3) := by decide +kernel
theorem dX8_limit_10 : decode cX8_limit 10 = .ok (.bipush (-2), 2) := by decide +kernel
theorem dX8_limit_12 : decode cX8_limit 12 = .ok (.ireturn, 1) := by decide +kernel
theorem dX8_limit_13 : decode cX8_limit 13 = .ok (.aload_n 0, 1) := by decide +kernel
theorem dX8_limit_14 : decode cX8_limit 14 = .ok (.getfield 16, 3) := by decide +kernel
theorem dX8_limit_17 : decode cX8_limit 17 = .ok (.istore_n 2, 1) := by decide +kernel
theorem dX8_limit_18 : decode cX8_limit 18 = .ok (.aload_n 0, 1) := by decide +kernel
theorem dX8_limit_19 : decode cX8_limit 19 = .ok (.iload_n 1, 1) := by decide +kernel
theorem dX8_limit_20 : decode cX8_limit 20 = .ok (.putfield 16, 3) := by decide +kernel
theorem dX8_limit_23 : decode cX8_limit 23 = .ok (.iload_n 2, 1) := by decide +kernel
theorem dX8_limit_24 : decode cX8_limit 24 = .ok (.ireturn, 1) := by decide +kernel
set_option maxRecDepth 20000 in
theorem ggX8_isPlan_X8_within : GoodIn wsX8_isPlan wsX8_within := goodIn_r _ [5] (by decide +kernel) (by decide +kernel)
set_option maxRecDepth 20000 in
theorem gX8_isPlan_X8_within : GoodIn wsX8_isPlan (va_wsS RX8 74 yX8_within wsX8_within) := goodIn_app (goodIn_of _ (by decide +kernel)) ggX8_isPlan_X8_within
theorem dX8_isPlan_0 : decode cX8_isPlan 0 = .ok (.iload_n 1, 1) := by decide +kernel
theorem dX8_isPlan_1 : decode cX8_isPlan 1 = .ok (.iconst 0, 1) := by decide +kernel
theorem dX8_isPlan_2 : decode cX8_isPlan 2 = .ok (.aload_n 0, 1) := by decide +kernel
theorem dX8_isPlan_3 : decode cX8_isPlan 3 = .ok (.getfield 89, 3) := by decide +kernel
theorem dX8_isPlan_6 : decode cX8_isPlan 6 = .ok (.iconst 1, 1) := by decide +kernel
theorem dX8_isPlan_7 : decode cX8_isPlan 7 = .ok (.isub, 1) := by decide +kernel
theorem dX8_isPlan_8 : decode cX8_isPlan 8 = .ok (.invokestatic 74, 3) := by decide +kernel
theorem dX8_isPlan_11 : decode cX8_isPlan 11 = .ok (.ireturn, 1) := by decide +kernel
theorem dX8_comesTo_0 : decode cX8_comesTo 0 = .ok (.aload_n 0, 1) := by decide +kernel
theorem dX8_comesTo_1 : decode cX8_comesTo 1 = .ok (.getfield 23, 3) := by decide +kernel
theorem dX8_comesTo_4 : decode cX8_comesTo 4 = .ok (.iload_n 1, 1) := by decide +kernel
theorem dX8_comesTo_5 : decode cX8_comesTo 5 = .ok (.dup2, 1) := by decide +kernel
theorem dX8_comesTo_6 : decode cX8_comesTo 6 = .ok (.iaload, 1) := by decide +kernel
theorem dX8_comesTo_7 : decode cX8_comesTo 7 = .ok (.iconst 1, 1) := by decide +kernel
theorem dX8_comesTo_8 : decode cX8_comesTo 8 = .ok (.iload_n 2, 1) := by decide +kernel
theorem dX8_comesTo_9 : decode cX8_comesTo 9 = .ok (.ishl, 1) := by decide +kernel
theorem dX8_comesTo_10 : decode cX8_comesTo 10 = .ok (.ior, 1) := by decide +kernel
theorem dX8_comesTo_11 : decode cX8_comesTo 11 = .ok (.iastore, 1) := by decide +kernel
theorem dX8_comesTo_12 : decode cX8_comesTo 12 = .ok (.aload_n 0, 1) := by decide +kernel
theorem dX8_comesTo_13 : decode cX8_comesTo 13 = .ok (.dup, 1) := by decide +kernel
theorem dX8_comesTo_14 : decode cX8_comesTo 14 = .ok (.getfield 92, 3) := by decide +kernel
theorem dX8_comesTo_17 : decode cX8_comesTo 17 = .ok (.iconst 1, 1) := by decide +kernel
theorem dX8_comesTo_18 : decode cX8_comesTo 18 = .ok (.iload_n 2, 1) := by decide +kernel
theorem dX8_comesTo_19 : decode cX8_comesTo 19 = .ok (.ishl, 1) := by decide +kernel
theorem dX8_comesTo_20 : decode cX8_comesTo 20 = .ok (.ior, 1) := by decide +kernel
theorem dX8_comesTo_21 : decode cX8_comesTo 21 = .ok (.putfield 92, 3) := by decide +kernel
theorem dX8_comesTo_24 : decode cX8_comesTo 24 = .ok (.aload_n 0, 1) := by decide +kernel
theorem dX8_comesTo_25 : decode cX8_comesTo 25 = .ok (.getfield 41, 3) := by decide +kernel
theorem dX8_comesTo_28 : decode cX8_comesTo 28 = .ok (.aload_n 0, 1) := by decide +kernel
theorem dX8_comesTo_29 : decode cX8_comesTo 29 = .ok (.getfield 95, 3) := by decide +kernel
theorem dX8_comesTo_32 : decode cX8_comesTo 32 = .ok (.iload_n 2, 1) := by decide +kernel
theorem dX8_comesTo_33 : decode cX8_comesTo 33 = .ok (.iastore, 1) := by decide +kernel
theorem dX8_comesTo_34 : decode cX8_comesTo 34 = .ok (.aload_n 0, 1) := by decide +kernel
theorem dX8_comesTo_35 : decode cX8_comesTo 35 = .ok (.getfield 44, 3) := by decide +kernel
theorem dX8_comesTo_38 : decode cX8_comesTo 38 = .ok (.aload_n 0, 1) := by decide +kernel
theorem dX8_comesTo_39 : decode cX8_comesTo 39 = .ok (.getfield 95, 3) := by decide +kernel
theorem dX8_comesTo_42 : decode cX8_comesTo 42 = .ok (.iconst 0, 1) := by decide +kernel
theorem dX8_comesTo_43 : decode cX8_comesTo 43 = .ok (.iastore, 1) := by decide +kernel
theorem dX8_comesTo_44 : decode cX8_comesTo 44 = .ok (.aload_n 0, 1) := by decide +kernel
theorem dX8_comesTo_45 : decode cX8_comesTo 45 = .ok (.dup, 1) := by decide +kernel
theorem dX8_comesTo_46 : decode cX8_comesTo 46 = .ok (.getfield 95, 3) := by decide +kernel
theorem dX8_comesTo_49 : decode cX8_comesTo 49 = .ok (.iconst 1, 1) := by decide +kernel
theorem dX8_comesTo_50 : decode cX8_comesTo 50 = .ok (.iadd, 1) := by decide +kernel
theorem dX8_comesTo_51 : decode cX8_comesTo 51 = .ok (.putfield 95, 3) := by decide +kernel
theorem dX8_comesTo_54 : decode cX8_comesTo 54 = .ok (.return_, 1) := by decide +kernel
set_option maxRecDepth 20000 in
theorem ggX8_goesThrough_X8_comesTo : GoodIn wsX8_goesThrough wsX8_comesTo := goodIn_r _ [11, 12, 2, 3, 1, 4, 22, 23, 24, 25, 26, 27, 28, 29, 30, 31, 32, 33, 34, 35, 36, 37, 38, 39, 40, 41, 42, 43, 44, 45, 46, 47, 48, 49] (by decide +kernel) (by decide +kernel)
set_option maxRecDepth 20000 in
theorem gX8_goesThrough_X8_comesTo : GoodIn wsX8_goesThrough (wsV RX8 98 RX8 yX8_comesTo wsX8_comesTo) := goodIn_app (goodIn_of _ (by decide +kernel)) ggX8_goesThrough_X8_comesTo
set_option maxRecDepth 20000 in
theorem ggX8_goesThrough_X8_goesAlong : GoodIn wsX8_goesThrough wsX8_goesAlong := goodIn_r _ [16, 2, 17, 18, 12, 19, 20, 10, 21, 7, 8, 9, 11, 3, 1, 4, 22, 23, 24, 25, 26, 27, 28, 29, 30, 31, 32, 33, 34, 35, 36, 37, 38, 39, 40, 41, 42, 43, 44, 45, 46, 47, 48, 49] (by decide +kernel) (by decide +kernel)
set_option maxRecDepth 20000 in
theorem gX8_goesThrough_X8_goesAlong : GoodIn wsX8_goesThrough (wsV RX8 102 RX8 yX8_goesAlong wsX8_goesAlong) := goodIn_app (goodIn_of _ (by decide +kernel)) ggX8_goesThrough_X8_goesAlong
theorem dX8_goesThrough_0 : decode cX8_goesThrough 0 = .ok (.aload_n 0, 1) := by decide +kernel
theorem dX8_goesThrough_1 : decode cX8_goesThrough 1 = .ok (.iconst 0, 1) := by decide +kernel
theorem dX8_goesThrough_2 : decode cX8_goesThrough 2 = .ok (.putfield 95, 3) := by decide +kernel
theorem dX8_goesThrough_5 : decode cX8_goesThrough 5 = .ok (.aload_n 0, 1) := by decide +kernel
theorem dX8_goesThrough_6 : decode cX8_goesThrough 6 = .ok (.iconst 0, 1) := by decide +kernel
theorem dX8_goesThrough_7 : decode cX8_goesThrough 7 = .ok (.putfield 92, 3) := by decide +kernel
theorem dX8_goesThrough_10 : decode cX8_goesThrough 10 = .ok (.aload_n 0, 1) := by decide +kernel
theorem dX8_goesThrough_11 : decode cX8_goesThrough 11 = .ok (.iload_n 1, 1) := by decide +kernel
theorem dX8_goesThrough_12 : decode cX8_goesThrough 12 = .ok (.iconst 0, 1) := by decide +kernel
theorem dX8_goesThrough_13 : decode cX8_goesThrough 13 = .ok (.invokevirtual 98, 3) := by decide +kernel
theorem dX8_goesThrough_16 : decode cX8_goesThrough 16 = .ok (.aload_n 0, 1) := by decide +kernel
theorem dX8_goesThrough_17 : decode cX8_goesThrough 17 = .ok (.getfield 95, 3) := by decide +kernel
theorem dX8_goesThrough_20 : decode cX8_goesThrough 20 = .ok (.ifCond .le 96, 3) := by decide +kernel
theorem dX8_goesThrough_23 : decode cX8_goesThrough 23 = .ok (.aload_n 0, 1) := by decide +kernel
theorem dX8_goesThrough_24 : decode cX8_goesThrough 24 = .ok (.getfield 41, 3) := by decide +kernel
theorem dX8_goesThrough_27 : decode cX8_goesThrough 27 = .ok (.aload_n 0, 1) := by decide +kernel
theorem dX8_goesThrough_28 : decode cX8_goesThrough 28 = .ok (.getfield 95, 3) := by decide +kernel
theorem dX8_goesThrough_31 : decode cX8_goesThrough 31 = .ok (.iconst 1, 1) := by decide +kernel
theorem dX8_goesThrough_32 : decode cX8_goesThrough 32 = .ok (.isub, 1) := by decide +kernel
theorem dX8_goesThrough_33 : decode cX8_goesThrough 33 = .ok (.iaload, 1) := by decide +kernel
theorem dX8_goesThrough_34 : decode cX8_goesThrough 34 = .ok (.istore_n 2, 1) := by decide +kernel
theorem dX8_goesThrough_35 : decode cX8_goesThrough 35 = .ok (.aload_n 0, 1) := by decide +kernel
theorem dX8_goesThrough_36 : decode cX8_goesThrough 36 = .ok (.getfield 44, 3) := by decide +kernel
theorem dX8_goesThrough_39 : decode cX8_goesThrough 39 = .ok (.aload_n 0, 1) := by decide +kernel
theorem dX8_goesThrough_40 : decode cX8_goesThrough 40 = .ok (.getfield 95, 3) := by decide +kernel
theorem dX8_goesThrough_43 : decode cX8_goesThrough 43 = .ok (.iconst 1, 1) := by decide +kernel
theorem dX8_goesThrough_44 : decode cX8_goesThrough 44 = .ok (.isub, 1) := by decide +kernel
theorem dX8_goesThrough_45 : decode cX8_goesThrough 45 = .ok (.iaload, 1) := by decide +kernel
theorem dX8_goesThrough_46 : decode cX8_goesThrough 46 = .ok (.istore_n 3, 1) := by decide +kernel
theorem dX8_goesThrough_47 : decode cX8_goesThrough 47 = .ok (.aload_n 0, 1) := by decide +kernel
theorem dX8_goesThrough_48 : decode cX8_goesThrough 48 = .ok (.getfield 44, 3) := by decide +kernel
theorem dX8_goesThrough_51 : decode cX8_goesThrough 51 = .ok (.aload_n 0, 1) := by decide +kernel
theorem dX8_goesThrough_52 : decode cX8_goesThrough 52 = .ok (.getfield 95, 3) := by decide +kernel
theorem dX8_goesThrough_55 : decode cX8_goesThrough 55 = .ok (.iconst 1, 1) := by decide +kernel
theorem dX8_goesThrough_56 : decode cX8_goesThrough 56 = .ok (.isub, 1) := by decide +kernel
theorem dX8_goesThrough_57 : decode cX8_goesThrough 57 = .ok (.dup2, 1) := by decide +kernel
theorem dX8_goesThrough_58 : decode cX8_goesThrough 58 = .ok (.iaload, 1) := by decide +kernel
theorem dX8_goesThrough_59 : decode cX8_goesThrough 59 = .ok (.iconst 1, 1) := by decide +kernel
theorem dX8_goesThrough_60 : decode cX8_goesThrough 60 = .ok (.iadd, 1) := by decide +kernel
theorem dX8_goesThrough_61 : decode cX8_goesThrough 61 = .ok (.iastore, 1) := by decide +kernel
theorem dX8_goesThrough_62 : decode cX8_goesThrough 62 = .ok (.iload_n 3, 1) := by decide +kernel
theorem dX8_goesThrough_63 : decode cX8_goesThrough 63 = .ok (.aload_n 0, 1) := by decide +kernel
theorem dX8_goesThrough_64 : decode cX8_goesThrough 64 = .ok (.getfield 78, 3) := by decide +kernel
theorem dX8_goesThrough_67 : decode cX8_goesThrough 67 = .ok (.if_icmp .ne 30, 3) := by decide +kernel
theorem dX8_goesThrough_70 : decode cX8_goesThrough 70 = .ok (.aload_n 0, 1) := by decide +kernel
theorem dX8_goesThrough_71 : decode cX8_goesThrough 71 = .ok (.dup, 1) := by decide +kernel
theorem dX8_goesThrough_72 : decode cX8_goesThrough 72 = .ok (.getfield 92, 3) := by decide +kernel
theorem dX8_goesThrough_75 : decode cX8_goesThrough 75 = .ok (.iconst 1, 1) := by decide +kernel
theorem dX8_goesThrough_76 : decode cX8_goesThrough 76 = .ok (.iload_n 2, 1) := by decide +kernel
theorem dX8_goesThrough_77 : decode cX8_goesThrough 77 = .ok (.ishl, 1) := by decide +kernel
theorem dX8_goesThrough_78 : decode cX8_goesThrough 78 = .ok (.iconst (-1), 1) := by decide +kernel
theorem dX8_goesThrough_79 : decode cX8_goesThrough 79 = .ok (.ixor, 1) := by decide +kernel
theorem dX8_goesThrough_80 : decode cX8_goesThrough 80 = .ok (.iand, 1) := by decide +kernel
theorem dX8_goesThrough_81 : decode cX8_goesThrough 81 = .ok (.putfield 92, 3) := by decide +kernel
theorem dX8_goesThrough_84 : decode cX8_goesThrough 84 = .ok (.aload_n 0, 1) := by decide +kernel
theorem dX8_goesThrough_85 : decode cX8_goesThrough 85 = .ok (.dup, 1) := by decide +kernel
theorem dX8_goesThrough_86 : decode cX8_goesThrough 86 = .ok (.getfield 95, 3) := by decide +kernel
theorem dX8_goesThrough_89 : decode cX8_goesThrough 89 = .ok (.iconst 1, 1) := by decide +kernel
theorem dX8_goesThrough_90 : decode cX8_goesThrough 90 = .ok (.isub, 1) := by decide +kernel
theorem dX8_goesThrough_91 : decode cX8_goesThrough 91 = .ok (.putfield 95, 3) := by decide +kernel
theorem dX8_goesThrough_94 : decode cX8_goesThrough 94 = .ok (.goto 19, 3) := by decide +kernel
theorem dX8_goesThrough_97 : decode cX8_goesThrough 97 = .ok (.aload_n 0, 1) := by decide +kernel
theorem dX8_goesThrough_98 : decode cX8_goesThrough 98 = .ok (.getfield 7, 3) := by decide +kernel
theorem dX8_goesThrough_101 : decode cX8_goesThrough 101 = .ok (.iload_n 3, 1) := by decide +kernel
theorem dX8_goesThrough_102 : decode cX8_goesThrough 102 = .ok (.iaload, 1) := by decide +kernel
theorem dX8_goesThrough_103 : decode cX8_goesThrough 103 = .ok (.iload_n 2, 1) := by decide +kernel
theorem dX8_goesThrough_104 : decode cX8_goesThrough 104 = .ok (.if_icmp .ne 9, 3) := by decide +kernel
theorem dX8_goesThrough_107 : decode cX8_goesThrough 107 = .ok (.aload_n 0, 1) := by decide +kernel
theorem dX8_goesThrough_108 : decode cX8_goesThrough 108 = .ok (.iload_n 1, 1) := by decide +kernel
theorem dX8_goesThrough_109 : decode cX8_goesThrough 109 = .ok (.iload_n 3, 1) := by decide +kernel
theorem dX8_goesThrough_110 : decode cX8_goesThrough 110 = .ok (.invokevirtual 102, 3) := by decide +kernel
theorem dX8_goesThrough_113 : decode cX8_goesThrough 113 = .ok (.goto (-97), 3) := by decide +kernel
theorem dX8_goesThrough_116 : decode cX8_goesThrough 116 = .ok (.return_, 1) := by decide +kernel
set_option maxRecDepth 20000 in
theorem ggX8_goesAlong_X8_has : GoodIn wsX8_goesAlong wsX8_has := goodIn_r _ [8] (by decide +kernel) (by decide +kernel)
set_option maxRecDepth 20000 in
theorem gX8_goesAlong_X8_has : GoodIn wsX8_goesAlong (va_wsS RX8 105 yX8_has wsX8_has) := goodIn_app (goodIn_of _ (by decide +kernel)) ggX8_goesAlong_X8_has
set_option maxRecDepth 20000 in
theorem ggX8_goesAlong_X8_comesTo : GoodIn wsX8_goesAlong wsX8_comesTo := goodIn_r _ [12, 4, 1, 13, 14, 15, 16, 17, 18, 19, 20, 21, 22, 23, 24, 25, 26, 27, 28, 29, 30, 31, 32, 33, 34, 35, 36, 37, 38, 39, 40, 41, 42, 43] (by decide +kernel) (by decide +kernel)
set_option maxRecDepth 20000 in
theorem gX8_goesAlong_X8_comesTo : GoodIn wsX8_goesAlong (wsV RX8 98 RX8 yX8_comesTo wsX8_comesTo) := goodIn_app (goodIn_of _ (by decide +kernel)) ggX8_goesAlong_X8_comesTo
theorem dX8_goesAlong_0 : decode cX8_goesAlong 0 = .ok (.aload_n 0, 1) := by decide +kernel
theorem dX8_goesAlong_1 : decode cX8_goesAlong 1 = .ok (.getfield 92, 3) := by decide +kernel
theorem dX8_goesAlong_4 : decode cX8_goesAlong 4 = .ok (.aload_n 0, 1) := by decide +kernel
theorem dX8_goesAlong_5 : decode cX8_goesAlong 5 = .ok (.getfield 13, 3) := by decide +kernel
theorem dX8_goesAlong_8 : decode cX8_goesAlong 8 = .ok (.iload_n 2, 1) := by decide +kernel
theorem dX8_goesAlong_9 : decode cX8_goesAlong 9 = .ok (.iaload, 1) := by decide +kernel
theorem dX8_goesAlong_10 : decode cX8_goesAlong 10 = .ok (.invokestatic 105, 3) := by decide +kernel
theorem dX8_goesAlong_13 : decode cX8_goesAlong 13 = .ok (.ifCond .eq 18, 3) := by decide +kernel
theorem dX8_goesAlong_16 : decode cX8_goesAlong 16 = .ok (.aload_n 0, 1) := by decide +kernel
theorem dX8_goesAlong_17 : decode cX8_goesAlong 17 = .ok (.getfield 29, 3) := by decide +kernel
theorem dX8_goesAlong_20 : decode cX8_goesAlong 20 = .ok (.iload_n 1, 1) := by decide +kernel
theorem dX8_goesAlong_21 : decode cX8_goesAlong 21 = .ok (.dup2, 1) := by decide +kernel
theorem dX8_goesAlong_22 : decode cX8_goesAlong 22 = .ok (.iaload, 1) := by decide +kernel
theorem dX8_goesAlong_23 : decode cX8_goesAlong 23 = .ok (.iconst 1, 1) := by decide +kernel
theorem dX8_goesAlong_24 : decode cX8_goesAlong 24 = .ok (.iload_n 2, 1) := by decide +kernel
theorem dX8_goesAlong_25 : decode cX8_goesAlong 25 = .ok (.ishl, 1) := by decide +kernel
theorem dX8_goesAlong_26 : decode cX8_goesAlong 26 = .ok (.ior, 1) := by decide +kernel
theorem dX8_goesAlong_27 : decode cX8_goesAlong 27 = .ok (.iastore, 1) := by decide +kernel
theorem dX8_goesAlong_28 : decode cX8_goesAlong 28 = .ok (.goto 32, 3) := by decide +kernel
theorem dX8_goesAlong_31 : decode cX8_goesAlong 31 = .ok (.aload_n 0, 1) := by decide +kernel
theorem dX8_goesAlong_32 : decode cX8_goesAlong 32 = .ok (.getfield 23, 3) := by decide +kernel
theorem dX8_goesAlong_35 : decode cX8_goesAlong 35 = .ok (.iload_n 1, 1) := by decide +kernel
theorem dX8_goesAlong_36 : decode cX8_goesAlong 36 = .ok (.iaload, 1) := by decide +kernel
theorem dX8_goesAlong_37 : decode cX8_goesAlong 37 = .ok (.aload_n 0, 1) := by decide +kernel
theorem dX8_goesAlong_38 : decode cX8_goesAlong 38 = .ok (.getfield 13, 3) := by decide +kernel
theorem dX8_goesAlong_41 : decode cX8_goesAlong 41 = .ok (.iload_n 2, 1) := by decide +kernel
theorem dX8_goesAlong_42 : decode cX8_goesAlong 42 = .ok (.iaload, 1) := by decide +kernel
theorem dX8_goesAlong_43 : decode cX8_goesAlong 43 = .ok (.invokestatic 105, 3) := by decide +kernel
theorem dX8_goesAlong_46 : decode cX8_goesAlong 46 = .ok (.ifCond .ne 14, 3) := by decide +kernel
theorem dX8_goesAlong_49 : decode cX8_goesAlong 49 = .ok (.aload_n 0, 1) := by decide +kernel
theorem dX8_goesAlong_50 : decode cX8_goesAlong 50 = .ok (.iload_n 1, 1) := by decide +kernel
theorem dX8_goesAlong_51 : decode cX8_goesAlong 51 = .ok (.aload_n 0, 1) := by decide +kernel
theorem dX8_goesAlong_52 : decode cX8_goesAlong 52 = .ok (.getfield 13, 3) := by decide +kernel
theorem dX8_goesAlong_55 : decode cX8_goesAlong 55 = .ok (.iload_n 2, 1) := by decide +kernel
theorem dX8_goesAlong_56 : decode cX8_goesAlong 56 = .ok (.iaload, 1) := by decide +kernel
theorem dX8_goesAlong_57 : decode cX8_goesAlong 57 = .ok (.invokevirtual 98, 3) := by decide +kernel
theorem dX8_goesAlong_60 : decode cX8_goesAlong 60 = .ok (.return_, 1) := by decide +kernel
set_option maxRecDepth 20000 in
theorem ggX8_counts_X8_has : GoodIn wsX8_counts wsX8_has := goodIn_r _ [8] (by decide +kernel) (by decide +kernel)
set_option maxRecDepth 20000 in
theorem gX8_counts_X8_has : GoodIn wsX8_counts (va_wsS RX8 105 yX8_has wsX8_has) := goodIn_app (goodIn_of _ (by decide +kernel)) ggX8_counts_X8_has
theorem dX8_counts_0 : decode cX8_counts 0 = .ok (.iload_n 2, 1) := by decide +kernel
theorem dX8_counts_1 : decode cX8_counts 1 = .ok (.aload_n 0, 1) := by decide +kernel
theorem dX8_counts_2 : decode cX8_counts 2 = .ok (.getfield 20, 3) := by decide +kernel
theorem dX8_counts_5 : decode cX8_counts 5 = .ok (.iload_n 1, 1) := by decide +kernel
theorem dX8_counts_6 : decode cX8_counts 6 = .ok (.iaload, 1) := by decide +kernel
theorem dX8_counts_7 : decode cX8_counts 7 = .ok (.if_icmp .ge 38, 3) := by decide +kernel
theorem dX8_counts_10 : decode cX8_counts 10 = .ok (.aload_n 0, 1) := by decide +kernel
theorem dX8_counts_11 : decode cX8_counts 11 = .ok (.getfield 23, 3) := by decide +kernel
theorem dX8_counts_14 : decode cX8_counts 14 = .ok (.iload_n 1, 1) := by decide +kernel
theorem dX8_counts_15 : decode cX8_counts 15 = .ok (.iaload, 1) := by decide +kernel
theorem dX8_counts_16 : decode cX8_counts 16 = .ok (.aload_n 0, 1) := by decide +kernel
theorem dX8_counts_17 : decode cX8_counts 17 = .ok (.getfield 7, 3) := by decide +kernel
theorem dX8_counts_20 : decode cX8_counts 20 = .ok (.iload_n 2, 1) := by decide +kernel
theorem dX8_counts_21 : decode cX8_counts 21 = .ok (.iaload, 1) := by decide +kernel
theorem dX8_counts_22 : decode cX8_counts 22 = .ok (.invokestatic 105, 3) := by decide +kernel
theorem dX8_counts_25 : decode cX8_counts 25 = .ok (.ifCond .eq 20, 3) := by decide +kernel
theorem dX8_counts_28 : decode cX8_counts 28 = .ok (.aload_n 0, 1) := by decide +kernel
theorem dX8_counts_29 : decode cX8_counts 29 = .ok (.getfield 29, 3) := by decide +kernel
theorem dX8_counts_32 : decode cX8_counts 32 = .ok (.iload_n 1, 1) := by decide +kernel
theorem dX8_counts_33 : decode cX8_counts 33 = .ok (.iaload, 1) := by decide +kernel
theorem dX8_counts_34 : decode cX8_counts 34 = .ok (.iload_n 2, 1) := by decide +kernel
theorem dX8_counts_35 : decode cX8_counts 35 = .ok (.invokestatic 105, 3) := by decide +kernel
theorem dX8_counts_38 : decode cX8_counts 38 = .ok (.ifCond .ne 7, 3) := by decide +kernel
theorem dX8_counts_41 : decode cX8_counts 41 = .ok (.iconst 1, 1) := by decide +kernel
theorem dX8_counts_42 : decode cX8_counts 42 = .ok (.goto 4, 3) := by decide +kernel
theorem dX8_counts_45 : decode cX8_counts 45 = .ok (.iconst 0, 1) := by decide +kernel
theorem dX8_counts_46 : decode cX8_counts 46 = .ok (.ireturn, 1) := by decide +kernel
set_option maxRecDepth 20000 in
theorem ggX8_getsWays_X8_counts : GoodIn wsX8_getsWays wsX8_counts := goodIn_r _ [11, 1, 12, 3, 13, 14, 15, 10, 16, 17, 18, 19, 20, 21, 22, 23, 24, 25, 26, 27, 28, 29, 30, 31, 32, 33, 34, 35, 36, 37, 38, 39, 40, 41, 42, 43, 44] (by decide +kernel) (by decide +kernel)
set_option maxRecDepth 20000 in
theorem gX8_getsWays_X8_counts : GoodIn wsX8_getsWays (wsV RX8 109 RX8 yX8_counts wsX8_counts) := goodIn_app (goodIn_of _ (by decide +kernel)) ggX8_getsWays_X8_counts
set_option maxRecDepth 20000 in
theorem ggX8_getsWays_X8_has : GoodIn wsX8_getsWays wsX8_has := goodIn_r _ [16] (by decide +kernel) (by decide +kernel)
set_option maxRecDepth 20000 in
theorem gX8_getsWays_X8_has : GoodIn wsX8_getsWays (va_wsS RX8 105 yX8_has wsX8_has) := goodIn_app (goodIn_of _ (by decide +kernel)) ggX8_getsWays_X8_has
theorem dX8_getsWays_0 : decode cX8_getsWays 0 = .ok (.iload_n 2, 1) := by decide +kernel
theorem dX8_getsWays_1 : decode cX8_getsWays 1 = .ok (.ifCond .ne 7, 3) := by decide +kernel
theorem dX8_getsWays_4 : decode cX8_getsWays 4 = .ok (.iconst 1, 1) := by decide +kernel
theorem dX8_getsWays_5 : decode cX8_getsWays 5 = .ok (.goto 4, 3) := by decide +kernel
theorem dX8_getsWays_8 : decode cX8_getsWays 8 = .ok (.iconst 0, 1) := by decide +kernel
theorem dX8_getsWays_9 : decode cX8_getsWays 9 = .ok (.istore 4, 2) := by decide +kernel
theorem dX8_getsWays_11 : decode cX8_getsWays 11 = .ok (.iconst 0, 1) := by decide +kernel
theorem dX8_getsWays_12 : decode cX8_getsWays 12 = .ok (.istore 5, 2) := by decide +kernel
theorem dX8_getsWays_14 : decode cX8_getsWays 14 = .ok (.iload 5, 2) := by decide +kernel
theorem dX8_getsWays_16 : decode cX8_getsWays 16 = .ok (.aload_n 0, 1) := by decide +kernel
theorem dX8_getsWays_17 : decode cX8_getsWays 17 = .ok (.getfield 20, 3) := by decide +kernel
theorem dX8_getsWays_20 : decode cX8_getsWays 20 = .ok (.iload_n 1, 1) := by decide +kernel
theorem dX8_getsWays_21 : decode cX8_getsWays 21 = .ok (.iaload, 1) := by decide +kernel
theorem dX8_getsWays_22 : decode cX8_getsWays 22 = .ok (.if_icmp .ge 68, 3) := by decide +kernel
theorem dX8_getsWays_25 : decode cX8_getsWays 25 = .ok (.aload_n 0, 1) := by decide +kernel
theorem dX8_getsWays_26 : decode cX8_getsWays 26 = .ok (.getfield 13, 3) := by decide +kernel
theorem dX8_getsWays_29 : decode cX8_getsWays 29 = .ok (.iload 5, 2) := by decide +kernel
theorem dX8_getsWays_31 : decode cX8_getsWays 31 = .ok (.iaload, 1) := by decide +kernel
theorem dX8_getsWays_32 : decode cX8_getsWays 32 = .ok (.iload_n 2, 1) := by decide +kernel
theorem dX8_getsWays_33 : decode cX8_getsWays 33 = .ok (.if_icmp .ne 51, 3) := by decide +kernel
theorem dX8_getsWays_36 : decode cX8_getsWays 36 = .ok (.aload_n 0, 1) := by decide +kernel
theorem dX8_getsWays_37 : decode cX8_getsWays 37 = .ok (.iload_n 1, 1) := by decide +kernel
theorem dX8_getsWays_38 : decode cX8_getsWays 38 = .ok (.iload 5, 2) := by decide +kernel
theorem dX8_getsWays_40 : decode cX8_getsWays 40 = .ok (.invokevirtual 109, 3) := by decide +kernel
theorem dX8_getsWays_43 : decode cX8_getsWays 43 = .ok (.ifCond .eq 41, 3) := by decide +kernel
theorem dX8_getsWays_46 : decode cX8_getsWays 46 = .ok (.iload_n 3, 1) := by decide +kernel
theorem dX8_getsWays_47 : decode cX8_getsWays 47 = .ok (.aload_n 0, 1) := by decide +kernel
theorem dX8_getsWays_48 : decode cX8_getsWays 48 = .ok (.getfield 7, 3) := by decide +kernel
theorem dX8_getsWays_51 : decode cX8_getsWays 51 = .ok (.iload 5, 2) := by decide +kernel
theorem dX8_getsWays_53 : decode cX8_getsWays 53 = .ok (.iaload, 1) := by decide +kernel
theorem dX8_getsWays_54 : decode cX8_getsWays 54 = .ok (.invokestatic 105, 3) := by decide +kernel
theorem dX8_getsWays_57 : decode cX8_getsWays 57 = .ok (.ifCond .ne 5, 3) := by decide +kernel
theorem dX8_getsWays_60 : decode cX8_getsWays 60 = .ok (.iconst 0, 1) := by decide +kernel
theorem dX8_getsWays_61 : decode cX8_getsWays 61 = .ok (.ireturn, 1) := by decide +kernel
theorem dX8_getsWays_62 : decode cX8_getsWays 62 = .ok (.iload 4, 2) := by decide +kernel
theorem dX8_getsWays_64 : decode cX8_getsWays 64 = .ok (.aload_n 0, 1) := by decide +kernel
theorem dX8_getsWays_65 : decode cX8_getsWays 65 = .ok (.getfield 35, 3) := by decide +kernel
theorem dX8_getsWays_68 : decode cX8_getsWays 68 = .ok (.bipush 10, 2) := by decide +kernel
theorem dX8_getsWays_70 : decode cX8_getsWays 70 = .ok (.iload_n 1, 1) := by decide +kernel
theorem dX8_getsWays_71 : decode cX8_getsWays 71 = .ok (.imul, 1) := by decide +kernel
theorem dX8_getsWays_72 : decode cX8_getsWays 72 = .ok (.aload_n 0, 1) := by decide +kernel
theorem dX8_getsWays_73 : decode cX8_getsWays 73 = .ok (.getfield 7, 3) := by decide +kernel
theorem dX8_getsWays_76 : decode cX8_getsWays 76 = .ok (.iload 5, 2) := by decide +kernel
theorem dX8_getsWays_78 : decode cX8_getsWays 78 = .ok (.iaload, 1) := by decide +kernel
theorem dX8_getsWays_79 : decode cX8_getsWays 79 = .ok (.iadd, 1) := by decide +kernel
theorem dX8_getsWays_80 : decode cX8_getsWays 80 = .ok (.iaload, 1) := by decide +kernel
theorem dX8_getsWays_81 : decode cX8_getsWays 81 = .ok (.iadd, 1) := by decide +kernel
theorem dX8_getsWays_82 : decode cX8_getsWays 82 = .ok (.istore 4, 2) := by decide +kernel
theorem dX8_getsWays_84 : decode cX8_getsWays 84 = .ok (.iinc 5 1, 3) := by decide +kernel
theorem dX8_getsWays_87 : decode cX8_getsWays 87 = .ok (.goto (-73), 3) := by decide +kernel
theorem dX8_getsWays_90 : decode cX8_getsWays 90 = .ok (.aload_n 0, 1) := by decide +kernel
theorem dX8_getsWays_91 : decode cX8_getsWays 91 = .ok (.getfield 26, 3) := by decide +kernel
theorem dX8_getsWays_94 : decode cX8_getsWays 94 = .ok (.iload_n 1, 1) := by decide +kernel
theorem dX8_getsWays_95 : decode cX8_getsWays 95 = .ok (.dup2, 1) := by decide +kernel
theorem dX8_getsWays_96 : decode cX8_getsWays 96 = .ok (.iaload, 1) := by decide +kernel
theorem dX8_getsWays_97 : decode cX8_getsWays 97 = .ok (.iload 4, 2) := by decide +kernel
theorem dX8_getsWays_99 : decode cX8_getsWays 99 = .ok (.aload_n 0, 1) := by decide +kernel
theorem dX8_getsWays_100 : decode cX8_getsWays 100 = .ok (.getfield 16, 3) := by decide +kernel
theorem dX8_getsWays_103 : decode cX8_getsWays 103 = .ok (.if_icmp .le 9, 3) := by decide +kernel
theorem dX8_getsWays_106 : decode cX8_getsWays 106 = .ok (.iconst 1, 1) := by decide +kernel
theorem dX8_getsWays_107 : decode cX8_getsWays 107 = .ok (.iload_n 2, 1) := by decide +kernel
theorem dX8_getsWays_108 : decode cX8_getsWays 108 = .ok (.ishl, 1) := by decide +kernel
theorem dX8_getsWays_109 : decode cX8_getsWays 109 = .ok (.goto 4, 3) := by decide +kernel
theorem dX8_getsWays_112 : decode cX8_getsWays 112 = .ok (.iconst 0, 1) := by decide +kernel
theorem dX8_getsWays_113 : decode cX8_getsWays 113 = .ok (.ior, 1) := by decide +kernel
theorem dX8_getsWays_114 : decode cX8_getsWays 114 = .ok (.iastore, 1) := by decide +kernel
theorem dX8_getsWays_115 : decode cX8_getsWays 115 = .ok (.aload_n 0, 1) := by decide +kernel
theorem dX8_getsWays_116 : decode cX8_getsWays 116 = .ok (.getfield 35, 3) := by decide +kernel
theorem dX8_getsWays_119 : decode cX8_getsWays 119 = .ok (.bipush 10, 2) := by decide +kernel
theorem dX8_getsWays_121 : decode cX8_getsWays 121 = .ok (.iload_n 1, 1) := by decide +kernel
theorem dX8_getsWays_122 : decode cX8_getsWays 122 = .ok (.imul, 1) := by decide +kernel
theorem dX8_getsWays_123 : decode cX8_getsWays 123 = .ok (.iload_n 2, 1) := by decide +kernel
theorem dX8_getsWays_124 : decode cX8_getsWays 124 = .ok (.iadd, 1) := by decide +kernel
theorem dX8_getsWays_125 : decode cX8_getsWays 125 = .ok (.iload 4, 2) := by decide +kernel
theorem dX8_getsWays_127 : decode cX8_getsWays 127 = .ok (.aload_n 0, 1) := by decide +kernel
theorem dX8_getsWays_128 : decode cX8_getsWays 128 = .ok (.getfield 16, 3) := by decide +kernel
theorem dX8_getsWays_131 : decode cX8_getsWays 131 = .ok (.if_icmp .le 7, 3) := by decide +kernel
theorem dX8_getsWays_134 : decode cX8_getsWays 134 = .ok (.iconst 1, 1) := by decide +kernel
theorem dX8_getsWays_135 : decode cX8_getsWays 135 = .ok (.goto 5, 3) := by decide +kernel
theorem dX8_getsWays_138 : decode cX8_getsWays 138 = .ok (.iload 4, 2) := by decide +kernel
theorem dX8_getsWays_140 : decode cX8_getsWays 140 = .ok (.iastore, 1) := by decide +kernel
theorem dX8_getsWays_141 : decode cX8_getsWays 141 = .ok (.iconst 1, 1) := by decide +kernel
theorem dX8_getsWays_142 : decode cX8_getsWays 142 = .ok (.ireturn, 1) := by decide +kernel
set_option maxRecDepth 20000 in
theorem ggX8_findWays_X8_has : GoodIn wsX8_findWays wsX8_has := goodIn_r _ [6] (by decide +kernel) (by decide +kernel)
set_option maxRecDepth 20000 in
theorem gX8_findWays_X8_has : GoodIn wsX8_findWays (va_wsS RX8 105 yX8_has wsX8_has) := goodIn_app (goodIn_of _ (by decide +kernel)) ggX8_findWays_X8_has
set_option maxRecDepth 20000 in
theorem ggX8_findWays_X8_getsWays : GoodIn wsX8_findWays wsX8_getsWays := goodIn_r _ [10, 11, 12, 13, 1, 14, 15, 16, 17, 18, 5, 19, 2, 20, 3, 4, 6, 21, 22, 23, 24, 25, 26, 27, 28, 29, 30, 31, 32, 33, 34, 35, 36, 37, 38, 39, 40, 41, 42, 43, 44, 45, 46, 47, 48] (by decide +kernel) (by decide +kernel)
set_option maxRecDepth 20000 in
theorem gX8_findWays_X8_getsWays : GoodIn wsX8_findWays (wsV RX8 112 RX8 yX8_getsWays wsX8_getsWays) := goodIn_app (goodIn_of _ (by decide +kernel)) ggX8_findWays_X8_getsWays
theorem dX8_findWays_0 : decode cX8_findWays 0 = .ok (.iconst 0, 1) := by decide +kernel
theorem dX8_findWays_1 : decode cX8_findWays 1 = .ok (.istore_n 2, 1) := by decide +kernel
theorem dX8_findWays_2 : decode cX8_findWays 2 = .ok (.iconst 0, 1) := by decide +kernel
theorem dX8_findWays_3 : decode cX8_findWays 3 = .ok (.istore_n 3, 1) := by decide +kernel
theorem dX8_findWays_4 : decode cX8_findWays 4 = .ok (.iload_n 3, 1) := by decide +kernel
theorem dX8_findWays_5 : decode cX8_findWays 5 = .ok (.bipush 10, 2) := by decide +kernel
theorem dX8_findWays_7 : decode cX8_findWays 7 = .ok (.if_icmp .ge 21, 3) := by decide +kernel
theorem dX8_findWays_10 : decode cX8_findWays 10 = .ok (.aload_n 0, 1) := by decide +kernel
theorem dX8_findWays_11 : decode cX8_findWays 11 = .ok (.getfield 35, 3) := by decide +kernel
theorem dX8_findWays_14 : decode cX8_findWays 14 = .ok (.bipush 10, 2) := by decide +kernel
theorem dX8_findWays_16 : decode cX8_findWays 16 = .ok (.iload_n 1, 1) := by decide +kernel
theorem dX8_findWays_17 : decode cX8_findWays 17 = .ok (.imul, 1) := by decide +kernel
theorem dX8_findWays_18 : decode cX8_findWays 18 = .ok (.iload_n 3, 1) := by decide +kernel
theorem dX8_findWays_19 : decode cX8_findWays 19 = .ok (.iadd, 1) := by decide +kernel
theorem dX8_findWays_20 : decode cX8_findWays 20 = .ok (.iconst 1, 1) := by decide +kernel
theorem dX8_findWays_21 : decode cX8_findWays 21 = .ok (.iastore, 1) := by decide +kernel
theorem dX8_findWays_22 : decode cX8_findWays 22 = .ok (.iinc 3 1, 3) := by decide +kernel
theorem dX8_findWays_25 : decode cX8_findWays 25 = .ok (.goto (-21), 3) := by decide +kernel
theorem dX8_findWays_28 : decode cX8_findWays 28 = .ok (.iload_n 2, 1) := by decide +kernel
theorem dX8_findWays_29 : decode cX8_findWays 29 = .ok (.aload_n 0, 1) := by decide +kernel
theorem dX8_findWays_30 : decode cX8_findWays 30 = .ok (.getfield 23, 3) := by decide +kernel
theorem dX8_findWays_33 : decode cX8_findWays 33 = .ok (.iload_n 1, 1) := by decide +kernel
theorem dX8_findWays_34 : decode cX8_findWays 34 = .ok (.iaload, 1) := by decide +kernel
theorem dX8_findWays_35 : decode cX8_findWays 35 = .ok (.if_icmp .eq 57, 3) := by decide +kernel
theorem dX8_findWays_38 : decode cX8_findWays 38 = .ok (.iconst 0, 1) := by decide +kernel
theorem dX8_findWays_39 : decode cX8_findWays 39 = .ok (.istore_n 3, 1) := by decide +kernel
theorem dX8_findWays_40 : decode cX8_findWays 40 = .ok (.iload_n 3, 1) := by decide +kernel
theorem dX8_findWays_41 : decode cX8_findWays 41 = .ok (.bipush 10, 2) := by decide +kernel
theorem dX8_findWays_43 : decode cX8_findWays 43 = .ok (.if_icmp .ge 46, 3) := by decide +kernel
theorem dX8_findWays_46 : decode cX8_findWays 46 = .ok (.aload_n 0, 1) := by decide +kernel
theorem dX8_findWays_47 : decode cX8_findWays 47 = .ok (.getfield 23, 3) := by decide +kernel
theorem dX8_findWays_50 : decode cX8_findWays 50 = .ok (.iload_n 1, 1) := by decide +kernel
theorem dX8_findWays_51 : decode cX8_findWays 51 = .ok (.iaload, 1) := by decide +kernel
theorem dX8_findWays_52 : decode cX8_findWays 52 = .ok (.iload_n 3, 1) := by decide +kernel
theorem dX8_findWays_53 : decode cX8_findWays 53 = .ok (.invokestatic 105, 3) := by decide +kernel
theorem dX8_findWays_56 : decode cX8_findWays 56 = .ok (.ifCond .eq 27, 3) := by decide +kernel
theorem dX8_findWays_59 : decode cX8_findWays 59 = .ok (.iload_n 2, 1) := by decide +kernel
theorem dX8_findWays_60 : decode cX8_findWays 60 = .ok (.iload_n 3, 1) := by decide +kernel
theorem dX8_findWays_61 : decode cX8_findWays 61 = .ok (.invokestatic 105, 3) := by decide +kernel
theorem dX8_findWays_64 : decode cX8_findWays 64 = .ok (.ifCond .ne 19, 3) := by decide +kernel
theorem dX8_findWays_67 : decode cX8_findWays 67 = .ok (.aload_n 0, 1) := by decide +kernel
theorem dX8_findWays_68 : decode cX8_findWays 68 = .ok (.iload_n 1, 1) := by decide +kernel
theorem dX8_findWays_69 : decode cX8_findWays 69 = .ok (.iload_n 3, 1) := by decide +kernel
theorem dX8_findWays_70 : decode cX8_findWays 70 = .ok (.iload_n 2, 1) := by decide +kernel
theorem dX8_findWays_71 : decode cX8_findWays 71 = .ok (.invokevirtual 112, 3) := by decide +kernel
theorem dX8_findWays_74 : decode cX8_findWays 74 = .ok (.ifCond .eq 9, 3) := by decide +kernel
theorem dX8_findWays_77 : decode cX8_findWays 77 = .ok (.iload_n 2, 1) := by decide +kernel
theorem dX8_findWays_78 : decode cX8_findWays 78 = .ok (.iconst 1, 1) := by decide +kernel
theorem dX8_findWays_79 : decode cX8_findWays 79 = .ok (.iload_n 3, 1) := by decide +kernel
theorem dX8_findWays_80 : decode cX8_findWays 80 = .ok (.ishl, 1) := by decide +kernel
theorem dX8_findWays_81 : decode cX8_findWays 81 = .ok (.ior, 1) := by decide +kernel
theorem dX8_findWays_82 : decode cX8_findWays 82 = .ok (.istore_n 2, 1) := by decide +kernel
theorem dX8_findWays_83 : decode cX8_findWays 83 = .ok (.iinc 3 1, 3) := by decide +kernel
theorem dX8_findWays_86 : decode cX8_findWays 86 = .ok (.goto (-46), 3) := by decide +kernel
theorem dX8_findWays_89 : decode cX8_findWays 89 = .ok (.goto (-61), 3) := by decide +kernel
theorem dX8_findWays_92 : decode cX8_findWays 92 = .ok (.return_, 1) := by decide +kernel
set_option maxRecDepth 20000 in
theorem ggX8_findAdds_X8_counts : GoodIn wsX8_findAdds wsX8_counts := goodIn_r _ [12, 1, 13, 6, 14, 15, 16, 11, 17, 18, 19, 20, 21, 22, 23, 24, 25, 26, 27, 28, 29, 30, 31, 32, 33, 34, 35, 36, 37, 38, 39, 40, 41, 42, 43, 44, 45] (by decide +kernel) (by decide +kernel)
set_option maxRecDepth 20000 in
theorem gX8_findAdds_X8_counts : GoodIn wsX8_findAdds (wsV RX8 109 RX8 yX8_counts wsX8_counts) := goodIn_app (goodIn_of _ (by decide +kernel)) ggX8_findAdds_X8_counts
set_option maxRecDepth 20000 in
theorem ggX8_findAdds_X8_has : GoodIn wsX8_findAdds wsX8_has := goodIn_r _ [17] (by decide +kernel) (by decide +kernel)
set_option maxRecDepth 20000 in
theorem gX8_findAdds_X8_has : GoodIn wsX8_findAdds (va_wsS RX8 105 yX8_has wsX8_has) := goodIn_app (goodIn_of _ (by decide +kernel)) ggX8_findAdds_X8_has
theorem dX8_findAdds_0 : decode cX8_findAdds 0 = .ok (.iconst 0, 1) := by decide +kernel
theorem dX8_findAdds_1 : decode cX8_findAdds 1 = .ok (.istore_n 2, 1) := by decide +kernel
theorem dX8_findAdds_2 : decode cX8_findAdds 2 = .ok (.iload_n 2, 1) := by decide +kernel
theorem dX8_findAdds_3 : decode cX8_findAdds 3 = .ok (.aload_n 0, 1) := by decide +kernel
theorem dX8_findAdds_4 : decode cX8_findAdds 4 = .ok (.getfield 20, 3) := by decide +kernel
theorem dX8_findAdds_7 : decode cX8_findAdds 7 = .ok (.iload_n 1, 1) := by decide +kernel
theorem dX8_findAdds_8 : decode cX8_findAdds 8 = .ok (.iaload, 1) := by decide +kernel
theorem dX8_findAdds_9 : decode cX8_findAdds 9 = .ok (.if_icmp .ge 149, 3) := by decide +kernel
theorem dX8_findAdds_12 : decode cX8_findAdds 12 = .ok (.aload_n 0, 1) := by decide +kernel
theorem dX8_findAdds_13 : decode cX8_findAdds 13 = .ok (.iload_n 1, 1) := by decide +kernel
theorem dX8_findAdds_14 : decode cX8_findAdds 14 = .ok (.iload_n 2, 1) := by decide +kernel
theorem dX8_findAdds_15 : decode cX8_findAdds 15 = .ok (.invokevirtual 109, 3) := by decide +kernel
theorem dX8_findAdds_18 : decode cX8_findAdds 18 = .ok (.ifCond .eq 25, 3) := by decide +kernel
theorem dX8_findAdds_21 : decode cX8_findAdds 21 = .ok (.aload_n 0, 1) := by decide +kernel
theorem dX8_findAdds_22 : decode cX8_findAdds 22 = .ok (.getfield 26, 3) := by decide +kernel
theorem dX8_findAdds_25 : decode cX8_findAdds 25 = .ok (.iload_n 1, 1) := by decide +kernel
theorem dX8_findAdds_26 : decode cX8_findAdds 26 = .ok (.iaload, 1) := by decide +kernel
theorem dX8_findAdds_27 : decode cX8_findAdds 27 = .ok (.aload_n 0, 1) := by decide +kernel
theorem dX8_findAdds_28 : decode cX8_findAdds 28 = .ok (.getfield 13, 3) := by decide +kernel
theorem dX8_findAdds_31 : decode cX8_findAdds 31 = .ok (.iload_n 2, 1) := by decide +kernel
theorem dX8_findAdds_32 : decode cX8_findAdds 32 = .ok (.iaload, 1) := by decide +kernel
theorem dX8_findAdds_33 : decode cX8_findAdds 33 = .ok (.invokestatic 105, 3) := by decide +kernel
theorem dX8_findAdds_36 : decode cX8_findAdds 36 = .ok (.ifCond .ne 7, 3) := by decide +kernel
theorem dX8_findAdds_39 : decode cX8_findAdds 39 = .ok (.iconst 1, 1) := by decide +kernel
theorem dX8_findAdds_40 : decode cX8_findAdds 40 = .ok (.goto 4, 3) := by decide +kernel
theorem dX8_findAdds_43 : decode cX8_findAdds 43 = .ok (.iconst 0, 1) := by decide +kernel
theorem dX8_findAdds_44 : decode cX8_findAdds 44 = .ok (.istore_n 3, 1) := by decide +kernel
theorem dX8_findAdds_45 : decode cX8_findAdds 45 = .ok (.iconst 0, 1) := by decide +kernel
theorem dX8_findAdds_46 : decode cX8_findAdds 46 = .ok (.istore 4, 2) := by decide +kernel
theorem dX8_findAdds_48 : decode cX8_findAdds 48 = .ok (.iconst 0, 1) := by decide +kernel
theorem dX8_findAdds_49 : decode cX8_findAdds 49 = .ok (.istore 5, 2) := by decide +kernel
theorem dX8_findAdds_51 : decode cX8_findAdds 51 = .ok (.iload 5, 2) := by decide +kernel
theorem dX8_findAdds_53 : decode cX8_findAdds 53 = .ok (.iload_n 2, 1) := by decide +kernel
theorem dX8_findAdds_54 : decode cX8_findAdds 54 = .ok (.if_icmp .ge 65, 3) := by decide +kernel
theorem dX8_findAdds_57 : decode cX8_findAdds 57 = .ok (.iload 4, 2) := by decide +kernel
theorem dX8_findAdds_59 : decode cX8_findAdds 59 = .ok (.aload_n 0, 1) := by decide +kernel
theorem dX8_findAdds_60 : decode cX8_findAdds 60 = .ok (.getfield 32, 3) := by decide +kernel
theorem dX8_findAdds_63 : decode cX8_findAdds 63 = .ok (.iload_n 1, 1) := by decide +kernel
theorem dX8_findAdds_64 : decode cX8_findAdds 64 = .ok (.iaload, 1) := by decide +kernel
theorem dX8_findAdds_65 : decode cX8_findAdds 65 = .ok (.iload 5, 2) := by decide +kernel
theorem dX8_findAdds_67 : decode cX8_findAdds 67 = .ok (.invokestatic 105, 3) := by decide +kernel
theorem dX8_findAdds_70 : decode cX8_findAdds 70 = .ok (.ifCond .eq 39, 3) := by decide +kernel
theorem dX8_findAdds_73 : decode cX8_findAdds 73 = .ok (.aload_n 0, 1) := by decide +kernel
theorem dX8_findAdds_74 : decode cX8_findAdds 74 = .ok (.getfield 13, 3) := by decide +kernel
theorem dX8_findAdds_77 : decode cX8_findAdds 77 = .ok (.iload 5, 2) := by decide +kernel
theorem dX8_findAdds_79 : decode cX8_findAdds 79 = .ok (.iaload, 1) := by decide +kernel
theorem dX8_findAdds_80 : decode cX8_findAdds 80 = .ok (.aload_n 0, 1) := by decide +kernel
theorem dX8_findAdds_81 : decode cX8_findAdds 81 = .ok (.getfield 13, 3) := by decide +kernel
theorem dX8_findAdds_84 : decode cX8_findAdds 84 = .ok (.iload_n 2, 1) := by decide +kernel
theorem dX8_findAdds_85 : decode cX8_findAdds 85 = .ok (.iaload, 1) := by decide +kernel
theorem dX8_findAdds_86 : decode cX8_findAdds 86 = .ok (.if_icmp .ne 23, 3) := by decide +kernel
theorem dX8_findAdds_89 : decode cX8_findAdds 89 = .ok (.aload_n 0, 1) := by decide +kernel
theorem dX8_findAdds_90 : decode cX8_findAdds 90 = .ok (.getfield 35, 3) := by decide +kernel
theorem dX8_findAdds_93 : decode cX8_findAdds 93 = .ok (.bipush 10, 2) := by decide +kernel
theorem dX8_findAdds_95 : decode cX8_findAdds 95 = .ok (.iload_n 1, 1) := by decide +kernel
theorem dX8_findAdds_96 : decode cX8_findAdds 96 = .ok (.imul, 1) := by decide +kernel
theorem dX8_findAdds_97 : decode cX8_findAdds 97 = .ok (.aload_n 0, 1) := by decide +kernel
theorem dX8_findAdds_98 : decode cX8_findAdds 98 = .ok (.getfield 7, 3) := by decide +kernel
theorem dX8_findAdds_101 : decode cX8_findAdds 101 = .ok (.iload 5, 2) := by decide +kernel
theorem dX8_findAdds_103 : decode cX8_findAdds 103 = .ok (.iaload, 1) := by decide +kernel
theorem dX8_findAdds_104 : decode cX8_findAdds 104 = .ok (.iadd, 1) := by decide +kernel
theorem dX8_findAdds_105 : decode cX8_findAdds 105 = .ok (.iaload, 1) := by decide +kernel
theorem dX8_findAdds_106 : decode cX8_findAdds 106 = .ok (.goto 4, 3) := by decide +kernel
theorem dX8_findAdds_109 : decode cX8_findAdds 109 = .ok (.iconst 0, 1) := by decide +kernel
theorem dX8_findAdds_110 : decode cX8_findAdds 110 = .ok (.iadd, 1) := by decide +kernel
theorem dX8_findAdds_111 : decode cX8_findAdds 111 = .ok (.istore 4, 2) := by decide +kernel
theorem dX8_findAdds_113 : decode cX8_findAdds 113 = .ok (.iinc 5 1, 3) := by decide +kernel
theorem dX8_findAdds_116 : decode cX8_findAdds 116 = .ok (.goto (-65), 3) := by decide +kernel
theorem dX8_findAdds_119 : decode cX8_findAdds 119 = .ok (.aload_n 0, 1) := by decide +kernel
theorem dX8_findAdds_120 : decode cX8_findAdds 120 = .ok (.getfield 32, 3) := by decide +kernel
theorem dX8_findAdds_123 : decode cX8_findAdds 123 = .ok (.iload_n 1, 1) := by decide +kernel
theorem dX8_findAdds_124 : decode cX8_findAdds 124 = .ok (.dup2, 1) := by decide +kernel
theorem dX8_findAdds_125 : decode cX8_findAdds 125 = .ok (.iaload, 1) := by decide +kernel
theorem dX8_findAdds_126 : decode cX8_findAdds 126 = .ok (.iload_n 3, 1) := by decide +kernel
theorem dX8_findAdds_127 : decode cX8_findAdds 127 = .ok (.ifCond .eq 9, 3) := by decide +kernel
theorem dX8_findAdds_130 : decode cX8_findAdds 130 = .ok (.iconst 1, 1) := by decide +kernel
theorem dX8_findAdds_131 : decode cX8_findAdds 131 = .ok (.iload_n 2, 1) := by decide +kernel
theorem dX8_findAdds_132 : decode cX8_findAdds 132 = .ok (.ishl, 1) := by decide +kernel
theorem dX8_findAdds_133 : decode cX8_findAdds 133 = .ok (.goto 4, 3) := by decide +kernel
theorem dX8_findAdds_136 : decode cX8_findAdds 136 = .ok (.iconst 0, 1) := by decide +kernel
theorem dX8_findAdds_137 : decode cX8_findAdds 137 = .ok (.ior, 1) := by decide +kernel
theorem dX8_findAdds_138 : decode cX8_findAdds 138 = .ok (.iastore, 1) := by decide +kernel
theorem dX8_findAdds_139 : decode cX8_findAdds 139 = .ok (.aload_n 0, 1) := by decide +kernel
theorem dX8_findAdds_140 : decode cX8_findAdds 140 = .ok (.getfield 38, 3) := by decide +kernel
theorem dX8_findAdds_143 : decode cX8_findAdds 143 = .ok (.bipush 24, 2) := by decide +kernel
theorem dX8_findAdds_145 : decode cX8_findAdds 145 = .ok (.iload_n 1, 1) := by decide +kernel
theorem dX8_findAdds_146 : decode cX8_findAdds 146 = .ok (.imul, 1) := by decide +kernel
theorem dX8_findAdds_147 : decode cX8_findAdds 147 = .ok (.iload_n 2, 1) := by decide +kernel
theorem dX8_findAdds_148 : decode cX8_findAdds 148 = .ok (.iadd, 1) := by decide +kernel
theorem dX8_findAdds_149 : decode cX8_findAdds 149 = .ok (.iload 4, 2) := by decide +kernel
theorem dX8_findAdds_151 : decode cX8_findAdds 151 = .ok (.iastore, 1) := by decide +kernel
theorem dX8_findAdds_152 : decode cX8_findAdds 152 = .ok (.iinc 2 1, 3) := by decide +kernel
theorem dX8_findAdds_155 : decode cX8_findAdds 155 = .ok (.goto (-153), 3) := by decide +kernel
theorem dX8_findAdds_158 : decode cX8_findAdds 158 = .ok (.return_, 1) := by decide +kernel
set_option maxRecDepth 20000 in
theorem ggX8_makesPlan_X8_goesThrough : GoodIn wsX8_makesPlan wsX8_goesThrough := goodIn_r _ [8, 9, 10, 11, 12, 3, 13, 14, 15, 16, 7, 17, 18, 19, 20, 21, 22, 23, 24, 25, 26, 27, 49, 50, 51, 52, 53, 54, 55, 56, 57, 58, 59, 60, 61, 62, 63, 64, 65, 66, 67, 68, 69, 70, 71, 72, 73, 74, 75, 76] (by decide +kernel) (by decide +kernel)
set_option maxRecDepth 20000 in
theorem gX8_makesPlan_X8_goesThrough : GoodIn wsX8_makesPlan (wsV RX8 115 RX8 yX8_goesThrough wsX8_goesThrough) := goodIn_app (goodIn_of _ (by decide +kernel)) ggX8_makesPlan_X8_goesThrough
set_option maxRecDepth 20000 in
theorem ggX8_makesPlan_X8_findWays : GoodIn wsX8_makesPlan wsX8_findWays := goodIn_r _ [31, 32, 18, 25, 26, 7, 27, 33, 34, 35, 36, 1, 23, 13, 37, 38, 39, 40, 41, 42, 24, 49, 50, 51, 52, 53, 54, 55, 56, 57, 58, 59, 60, 61, 62, 63, 64, 65, 66, 67, 68, 69, 70, 71, 72, 73, 74, 75, 76] (by decide +kernel) (by decide +kernel)
set_option maxRecDepth 20000 in
theorem gX8_makesPlan_X8_findWays : GoodIn wsX8_makesPlan (wsV RX8 119 RX8 yX8_findWays wsX8_findWays) := goodIn_app (goodIn_of _ (by decide +kernel)) ggX8_makesPlan_X8_findWays
set_option maxRecDepth 20000 in
theorem ggX8_makesPlan_X8_findAdds : GoodIn wsX8_makesPlan wsX8_findAdds := goodIn_r _ [46, 1, 37, 23, 47, 32, 13, 48, 39, 40, 41, 7, 42, 18, 24, 25, 26, 27, 49, 50, 51, 52, 53, 54, 55, 56, 57, 58, 59, 60, 61, 62, 63, 64, 65, 66, 67, 68, 69, 70, 71, 72, 73, 74, 75, 76] (by decide +kernel) (by decide +kernel)
set_option maxRecDepth 20000 in
theorem gX8_makesPlan_X8_findAdds : GoodIn wsX8_makesPlan (wsV RX8 122 RX8 yX8_findAdds wsX8_findAdds) := goodIn_app (goodIn_of _ (by decide +kernel)) ggX8_makesPlan_X8_findAdds
theorem dX8_makesPlan_0 : decode cX8_makesPlan 0 = .ok (.aload_n 0, 1) := by decide +kernel
theorem dX8_makesPlan_1 : decode cX8_makesPlan 1 = .ok (.getfield 20, 3) := by decide +kernel
theorem dX8_makesPlan_4 : decode cX8_makesPlan 4 = .ok (.aload_n 0, 1) := by decide +kernel
theorem dX8_makesPlan_5 : decode cX8_makesPlan 5 = .ok (.getfield 89, 3) := by decide +kernel
theorem dX8_makesPlan_8 : decode cX8_makesPlan 8 = .ok (.aload_n 0, 1) := by decide +kernel
theorem dX8_makesPlan_9 : decode cX8_makesPlan 9 = .ok (.getfield 78, 3) := by decide +kernel
theorem dX8_makesPlan_12 : decode cX8_makesPlan 12 = .ok (.iastore, 1) := by decide +kernel
theorem dX8_makesPlan_13 : decode cX8_makesPlan 13 = .ok (.aload_n 0, 1) := by decide +kernel
theorem dX8_makesPlan_14 : decode cX8_makesPlan 14 = .ok (.aload_n 0, 1) := by decide +kernel
theorem dX8_makesPlan_15 : decode cX8_makesPlan 15 = .ok (.getfield 89, 3) := by decide +kernel
theorem dX8_makesPlan_18 : decode cX8_makesPlan 18 = .ok (.invokevirtual 115, 3) := by decide +kernel
theorem dX8_makesPlan_21 : decode cX8_makesPlan 21 = .ok (.aload_n 0, 1) := by decide +kernel
theorem dX8_makesPlan_22 : decode cX8_makesPlan 22 = .ok (.aload_n 0, 1) := by decide +kernel
theorem dX8_makesPlan_23 : decode cX8_makesPlan 23 = .ok (.getfield 89, 3) := by decide +kernel
theorem dX8_makesPlan_26 : decode cX8_makesPlan 26 = .ok (.invokevirtual 119, 3) := by decide +kernel
theorem dX8_makesPlan_29 : decode cX8_makesPlan 29 = .ok (.aload_n 0, 1) := by decide +kernel
theorem dX8_makesPlan_30 : decode cX8_makesPlan 30 = .ok (.aload_n 0, 1) := by decide +kernel
theorem dX8_makesPlan_31 : decode cX8_makesPlan 31 = .ok (.getfield 89, 3) := by decide +kernel
theorem dX8_makesPlan_34 : decode cX8_makesPlan 34 = .ok (.invokevirtual 122, 3) := by decide +kernel
theorem dX8_makesPlan_37 : decode cX8_makesPlan 37 = .ok (.aload_n 0, 1) := by decide +kernel
theorem dX8_makesPlan_38 : decode cX8_makesPlan 38 = .ok (.dup, 1) := by decide +kernel
theorem dX8_makesPlan_39 : decode cX8_makesPlan 39 = .ok (.getfield 89, 3) := by decide +kernel
theorem dX8_makesPlan_42 : decode cX8_makesPlan 42 = .ok (.iconst 1, 1) := by decide +kernel
theorem dX8_makesPlan_43 : decode cX8_makesPlan 43 = .ok (.iadd, 1) := by decide +kernel
theorem dX8_makesPlan_44 : decode cX8_makesPlan 44 = .ok (.putfield 89, 3) := by decide +kernel
theorem dX8_makesPlan_47 : decode cX8_makesPlan 47 = .ok (.return_, 1) := by decide +kernel
