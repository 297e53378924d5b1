set_option maxRecDepth 20000 in
theorem ggX7_init_X1_init : GoodIn wsX7_init wsX1_init := goodIn_r _ [30, 31, 2, 3, 32, 33, 34, 99, 100, 101] (by decide +kernel) (by decide +kernel)
set_option maxRecDepth 20000 in
theorem gX7_init_X1_init_n9 : GoodIn wsX7_init (wsX1_init) := ggX7_init_X1_init
set_option maxRecDepth 20000 in
theorem ggX7_init_X0_init : GoodIn wsX7_init wsX0_init := goodIn_r _ [36, 37, 2, 3, 32, 38, 112, 113] (by decide +kernel) (by decide +kernel)
set_option maxRecDepth 20000 in
theorem gX7_init_X0_init_n24 : GoodIn wsX7_init (wsX0_init) := ggX7_init_X0_init
set_option maxRecDepth 20000 in
theorem ggX7_init_X2_init : GoodIn wsX7_init wsX2_init := goodIn_r _ [40, 41, 2, 3, 32, 42, 43, 44, 114, 115, 116, 117] (by decide +kernel) (by decide +kernel)
set_option maxRecDepth 20000 in
theorem gX7_init_X2_init_n37 : GoodIn wsX7_init (wsX2_init) := ggX7_init_X2_init
set_option maxRecDepth 20000 in
theorem ggX7_init_X3_init : GoodIn wsX7_init wsX3_init := goodIn_r _ [46, 47, 2, 3, 32, 48, 118, 119] (by decide +kernel) (by decide +kernel)
set_option maxRecDepth 20000 in
theorem gX7_init_X3_init_n44 : GoodIn wsX7_init (wsX3_init) := ggX7_init_X3_init
set_option maxRecDepth 20000 in
theorem ggX7_init_X4_init : GoodIn wsX7_init wsX4_init := goodIn_r _ [50, 51, 2, 3, 32, 52, 53, 120, 121, 122, 123, 124, 125, 126] (by decide +kernel) (by decide +kernel)
set_option maxRecDepth 20000 in
theorem gX7_init_X4_init_n53 : GoodIn wsX7_init (wsX4_init) := ggX7_init_X4_init
set_option maxRecDepth 20000 in
theorem ggX7_init_X4_draw : GoodIn wsX7_init wsX4_draw := goodIn_r _ [56, 57, 58, 59, 60, 61, 62, 52, 53, 63, 64, 65, 66, 2, 3, 32, 67, 68, 69, 70, 71, 72, 73, 74, 75, 76, 77, 78, 79, 80, 81, 82, 83, 84, 85, 86, 87, 88, 26, 89, 90, 91, 92, 93, 94, 95, 96, 97, 98, 127, 128, 129, 130, 131, 99, 100, 101, 120, 121, 122, 123, 124, 125, 126] (by decide +kernel) (by decide +kernel)
set_option maxRecDepth 20000 in
theorem gX7_init_X4_draw_n58 : GoodIn wsX7_init (wsX4_draw) := ggX7_init_X4_draw
theorem dX7_init_0 : decode cX7_init 0 = .ok (.aload_n 0, 1) := by decide +kernel
theorem dX7_init_1 : decode cX7_init 1 = .ok (.invokespecial 1, 3) := by decide +kernel
theorem dX7_init_4 : decode cX7_init 4 = .ok (.aload_n 0, 1) := by decide +kernel
theorem dX7_init_5 : decode cX7_init 5 = .ok (.new 7, 3) := by decide +kernel
theorem dX7_init_8 : decode cX7_init 8 = .ok (.dup, 1) := by decide +kernel
theorem dX7_init_9 : decode cX7_init 9 = .ok (.invokespecial 9, 3) := by decide +kernel
theorem dX7_init_12 : decode cX7_init 12 = .ok (.putfield 10, 3) := by decide +kernel
theorem dX7_init_15 : decode cX7_init 15 = .ok (.aload_n 0, 1) := by decide +kernel
theorem dX7_init_16 : decode cX7_init 16 = .ok (.bipush 8, 2) := by decide +kernel
theorem dX7_init_18 : decode cX7_init 18 = .ok (.anewarray 16, 3) := by decide +kernel
theorem dX7_init_21 : decode cX7_init 21 = .ok (.putfield 18, 3) := by decide +kernel
theorem dX7_init_24 : decode cX7_init 24 = .ok (.aload_n 0, 1) := by decide +kernel
theorem dX7_init_25 : decode cX7_init 25 = .ok (.new 22, 3) := by decide +kernel
theorem dX7_init_28 : decode cX7_init 28 = .ok (.dup, 1) := by decide +kernel
theorem dX7_init_29 : decode cX7_init 29 = .ok (.invokespecial 24, 3) := by decide +kernel
theorem dX7_init_32 : decode cX7_init 32 = .ok (.putfield 25, 3) := by decide +kernel
theorem dX7_init_35 : decode cX7_init 35 = .ok (.aload_n 0, 1) := by decide +kernel
theorem dX7_init_36 : decode cX7_init 36 = .ok (.bipush 10, 2) := by decide +kernel
theorem dX7_init_38 : decode cX7_init 38 = .ok (.anewarray 29, 3) := by decide +kernel
theorem dX7_init_41 : decode cX7_init 41 = .ok (.putfield 31, 3) := by decide +kernel
theorem dX7_init_44 : decode cX7_init 44 = .ok (.aload_n 0, 1) := by decide +kernel
theorem dX7_init_45 : decode cX7_init 45 = .ok (.new 35, 3) := by decide +kernel
theorem dX7_init_48 : decode cX7_init 48 = .ok (.dup, 1) := by decide +kernel
theorem dX7_init_49 : decode cX7_init 49 = .ok (.invokespecial 37, 3) := by decide +kernel
theorem dX7_init_52 : decode cX7_init 52 = .ok (.putfield 38, 3) := by decide +kernel
theorem dX7_init_55 : decode cX7_init 55 = .ok (.aload_n 0, 1) := by decide +kernel
theorem dX7_init_56 : decode cX7_init 56 = .ok (.new 42, 3) := by decide +kernel
theorem dX7_init_59 : decode cX7_init 59 = .ok (.dup, 1) := by decide +kernel
theorem dX7_init_60 : decode cX7_init 60 = .ok (.invokespecial 44, 3) := by decide +kernel
theorem dX7_init_63 : decode cX7_init 63 = .ok (.putfield 45, 3) := by decide +kernel
theorem dX7_init_66 : decode cX7_init 66 = .ok (.aload_n 0, 1) := by decide +kernel
theorem dX7_init_67 : decode cX7_init 67 = .ok (.sipush 1000, 3) := by decide +kernel
theorem dX7_init_70 : decode cX7_init 70 = .ok (.putfield 49, 3) := by decide +kernel
theorem dX7_init_73 : decode cX7_init 73 = .ok (.aload_n 0, 1) := by decide +kernel
theorem dX7_init_74 : decode cX7_init 74 = .ok (.new 16, 3) := by decide +kernel
theorem dX7_init_77 : decode cX7_init 77 = .ok (.dup, 1) := by decide +kernel
theorem dX7_init_78 : decode cX7_init 78 = .ok (.invokespecial 53, 3) := by decide +kernel
theorem dX7_init_81 : decode cX7_init 81 = .ok (.putfield 54, 3) := by decide +kernel
theorem dX7_init_84 : decode cX7_init 84 = .ok (.aload_n 0, 1) := by decide +kernel
theorem dX7_init_85 : decode cX7_init 85 = .ok (.getfield 54, 3) := by decide +kernel
theorem dX7_init_88 : decode cX7_init 88 = .ok (.aload_n 0, 1) := by decide +kernel
theorem dX7_init_89 : decode cX7_init 89 = .ok (.getfield 10, 3) := by decide +kernel
theorem dX7_init_92 : decode cX7_init 92 = .ok (.aload_n 0, 1) := by decide +kernel
theorem dX7_init_93 : decode cX7_init 93 = .ok (.getfield 49, 3) := by decide +kernel
theorem dX7_init_96 : decode cX7_init 96 = .ok (.invokevirtual 58, 3) := by decide +kernel
theorem dX7_init_99 : decode cX7_init 99 = .ok (.aload_n 0, 1) := by decide +kernel
theorem dX7_init_100 : decode cX7_init 100 = .ok (.getfield 18, 3) := by decide +kernel
theorem dX7_init_103 : decode cX7_init 103 = .ok (.iconst 0, 1) := by decide +kernel
theorem dX7_init_104 : decode cX7_init 104 = .ok (.aload_n 0, 1) := by decide +kernel
theorem dX7_init_105 : decode cX7_init 105 = .ok (.getfield 54, 3) := by decide +kernel
theorem dX7_init_108 : decode cX7_init 108 = .ok (.aastore, 1) := by decide +kernel
theorem dX7_init_109 : decode cX7_init 109 = .ok (.aload_n 0, 1) := by decide +kernel
theorem dX7_init_110 : decode cX7_init 110 = .ok (.iconst 1, 1) := by decide +kernel
theorem dX7_init_111 : decode cX7_init 111 = .ok (.putfield 62, 3) := by decide +kernel
theorem dX7_init_114 : decode cX7_init 114 = .ok (.return_, 1) := by decide +kernel
set_option maxRecDepth 20000 in
theorem ggX7_add_X7_isRoutine : GoodIn wsX7_add wsX7_isRoutine := goodIn_r _ [5] (by decide +kernel) (by decide +kernel)
set_option maxRecDepth 20000 in
theorem gX7_add_X7_isRoutine : GoodIn wsX7_add (va_wsS RX7 65 yX7_isRoutine wsX7_isRoutine) := goodIn_app (goodIn_of _ (by decide +kernel)) ggX7_add_X7_isRoutine
theorem dX7_add_0 : decode cX7_add 0 = .ok (.iload_n 1, 1) := by decide +kernel
theorem dX7_add_1 : decode cX7_add 1 = .ok (.invokestatic 65, 3) := by decide +kernel
theorem dX7_add_4 : decode cX7_add 4 = .ok (.ifCond .eq 10, 3) := by decide +kernel
theorem dX7_add_7 : decode cX7_add 7 = .ok (.iload_n 2, 1) := by decide +kernel
theorem dX7_add_8 : decode cX7_add 8 = .ok (.invokestatic 65, 3) := by decide +kernel
theorem dX7_add_11 : decode cX7_add 11 = .ok (.ifCond .ne 5, 3) := by decide +kernel
theorem dX7_add_14 : decode cX7_add 14 = .ok (.iconst (-1), 1) := by decide +kernel
theorem dX7_add_15 : decode cX7_add 15 = .ok (.ireturn, 1) := by decide +kernel
theorem dX7_add_16 : decode cX7_add 16 = .ok (.aload_n 0, 1) := by decide +kernel
theorem dX7_add_17 : decode cX7_add 17 = .ok (.getfield 10, 3) := by decide +kernel
theorem dX7_add_20 : decode cX7_add 20 = .ok (.getfield 69, 3) := by decide +kernel
theorem dX7_add_23 : decode cX7_add 23 = .ok (.bipush 24, 2) := by decide +kernel
theorem dX7_add_25 : decode cX7_add 25 = .ok (.if_icmp .lt 6, 3) := by decide +kernel
theorem dX7_add_28 : decode cX7_add 28 = .ok (.bipush (-4), 2) := by decide +kernel
theorem dX7_add_30 : decode cX7_add 30 = .ok (.ireturn, 1) := by decide +kernel
theorem dX7_add_31 : decode cX7_add 31 = .ok (.aload_n 0, 1) := by decide +kernel
theorem dX7_add_32 : decode cX7_add 32 = .ok (.getfield 10, 3) := by decide +kernel
theorem dX7_add_35 : decode cX7_add 35 = .ok (.getfield 72, 3) := by decide +kernel
theorem dX7_add_38 : decode cX7_add 38 = .ok (.aload_n 0, 1) := by decide +kernel
theorem dX7_add_39 : decode cX7_add 39 = .ok (.getfield 10, 3) := by decide +kernel
theorem dX7_add_42 : decode cX7_add 42 = .ok (.getfield 69, 3) := by decide +kernel
theorem dX7_add_45 : decode cX7_add 45 = .ok (.iload_n 1, 1) := by decide +kernel
theorem dX7_add_46 : decode cX7_add 46 = .ok (.iastore, 1) := by decide +kernel
theorem dX7_add_47 : decode cX7_add 47 = .ok (.aload_n 0, 1) := by decide +kernel
theorem dX7_add_48 : decode cX7_add 48 = .ok (.getfield 10, 3) := by decide +kernel
theorem dX7_add_51 : decode cX7_add 51 = .ok (.getfield 76, 3) := by decide +kernel
theorem dX7_add_54 : decode cX7_add 54 = .ok (.aload_n 0, 1) := by decide +kernel
theorem dX7_add_55 : decode cX7_add 55 = .ok (.getfield 10, 3) := by decide +kernel
theorem dX7_add_58 : decode cX7_add 58 = .ok (.getfield 69, 3) := by decide +kernel
theorem dX7_add_61 : decode cX7_add 61 = .ok (.iload_n 2, 1) := by decide +kernel
theorem dX7_add_62 : decode cX7_add 62 = .ok (.iastore, 1) := by decide +kernel
theorem dX7_add_63 : decode cX7_add 63 = .ok (.aload_n 0, 1) := by decide +kernel
theorem dX7_add_64 : decode cX7_add 64 = .ok (.getfield 10, 3) := by decide +kernel
theorem dX7_add_67 : decode cX7_add 67 = .ok (.dup, 1) := by decide +kernel
theorem dX7_add_68 : decode cX7_add 68 = .ok (.getfield 69, 3) := by decide +kernel
theorem dX7_add_71 : decode cX7_add 71 = .ok (.iconst 1, 1) := by decide +kernel
theorem dX7_add_72 : decode cX7_add 72 = .ok (.iadd, 1) := by decide +kernel
theorem dX7_add_73 : decode cX7_add 73 = .ok (.putfield 69, 3) := by decide +kernel
theorem dX7_add_76 : decode cX7_add 76 = .ok (.aload_n 0, 1) := by decide +kernel
theorem dX7_add_77 : decode cX7_add 77 = .ok (.getfield 10, 3) := by decide +kernel
theorem dX7_add_80 : decode cX7_add 80 = .ok (.getfield 69, 3) := by decide +kernel
theorem dX7_add_83 : decode cX7_add 83 = .ok (.iconst 1, 1) := by decide +kernel
theorem dX7_add_84 : decode cX7_add 84 = .ok (.isub, 1) := by decide +kernel
theorem dX7_add_85 : decode cX7_add 85 = .ok (.ireturn, 1) := by decide +kernel
set_option maxRecDepth 20000 in
theorem ggX7_ofCall_X7_isCall : GoodIn wsX7_ofCall wsX7_isCall := goodIn_r _ [6, 1, 7, 8, 9, 10, 11, 12, 13, 14, 15, 16, 17, 18, 19] (by decide +kernel) (by decide +kernel)
set_option maxRecDepth 20000 in
theorem gX7_ofCall_X7_isCall : GoodIn wsX7_ofCall (wsV RX7 79 RX7 yX7_isCall wsX7_isCall) := goodIn_app (goodIn_of _ (by decide +kernel)) ggX7_ofCall_X7_isCall
theorem dX7_ofCall_0 : decode cX7_ofCall 0 = .ok (.aload_n 0, 1) := by decide +kernel
theorem dX7_ofCall_1 : decode cX7_ofCall 1 = .ok (.iload_n 1, 1) := by decide +kernel
theorem dX7_ofCall_2 : decode cX7_ofCall 2 = .ok (.invokevirtual 79, 3) := by decide +kernel
theorem dX7_ofCall_5 : decode cX7_ofCall 5 = .ok (.ifCond .ne 5, 3) := by decide +kernel
theorem dX7_ofCall_8 : decode cX7_ofCall 8 = .ok (.iconst (-1), 1) := by decide +kernel
theorem dX7_ofCall_9 : decode cX7_ofCall 9 = .ok (.ireturn, 1) := by decide +kernel
theorem dX7_ofCall_10 : decode cX7_ofCall 10 = .ok (.iload_n 2, 1) := by decide +kernel
theorem dX7_ofCall_11 : decode cX7_ofCall 11 = .ok (.lookupswitch 45 #[(0, 25), (1, 35)], 25) := by decide +kernel
theorem dX7_ofCall_36 : decode cX7_ofCall 36 = .ok (.aload_n 0, 1) := by decide +kernel
theorem dX7_ofCall_37 : decode cX7_ofCall 37 = .ok (.getfield 10, 3) := by decide +kernel
theorem dX7_ofCall_40 : decode cX7_ofCall 40 = .ok (.getfield 72, 3) := by decide +kernel
theorem dX7_ofCall_43 : decode cX7_ofCall 43 = .ok (.iload_n 1, 1) := by decide +kernel
theorem dX7_ofCall_44 : decode cX7_ofCall 44 = .ok (.iaload, 1) := by decide +kernel
theorem dX7_ofCall_45 : decode cX7_ofCall 45 = .ok (.ireturn, 1) := by decide +kernel
theorem dX7_ofCall_46 : decode cX7_ofCall 46 = .ok (.aload_n 0, 1) := by decide +kernel
theorem dX7_ofCall_47 : decode cX7_ofCall 47 = .ok (.getfield 10, 3) := by decide +kernel
theorem dX7_ofCall_50 : decode cX7_ofCall 50 = .ok (.getfield 76, 3) := by decide +kernel
theorem dX7_ofCall_53 : decode cX7_ofCall 53 = .ok (.iload_n 1, 1) := by decide +kernel
theorem dX7_ofCall_54 : decode cX7_ofCall 54 = .ok (.iaload, 1) := by decide +kernel
theorem dX7_ofCall_55 : decode cX7_ofCall 55 = .ok (.ireturn, 1) := by decide +kernel
theorem dX7_ofCall_56 : decode cX7_ofCall 56 = .ok (.bipush (-2), 2) := by decide +kernel
theorem dX7_ofCall_58 : decode cX7_ofCall 58 = .ok (.ireturn, 1) := by decide +kernel
theorem dX7_limit_0 : decode cX7_limit 0 = .ok (.iload_n 1, 1) := by decide +kernel
theorem dX7_limit_1 : decode cX7_limit 1 = .ok (.iconst 1, 1) := by decide +kernel
theorem dX7_limit_2 : decode cX7_limit 2 = .ok (.if_icmp .lt 9, 3) := by decide +kernel
theorem dX7_limit_5 : decode cX7_limit 5 = .ok (.iload_n 1, 1) := by decide +kernel
theorem dX7_limit_6 : decode cX7_limit 6 = .ok (.ldc 82, 2) := by decide +kernel
theorem dX7_limit_8 : decode cX7_limit 8 = .ok (.if_icmp .le 6, 3) := by decide +kernel
theorem dX7_limit_11 : decode cX7_limit 11 = .ok (.bipush (-2), 2) := by decide +kernel
theorem dX7_limit_13 : decode cX7_limit 13 = .ok (.ireturn, 1) := by decide +kernel
theorem dX7_limit_14 : decode cX7_limit 14 = .ok (.aload_n 0, 1) := by decide +kernel
theorem dX7_limit_15 : decode cX7_limit 15 = .ok (.getfield 49, 3) := by decide +kernel
theorem dX7_limit_18 : decode cX7_limit 18 = .ok (.istore_n 2, 1) := by decide +kernel
theorem dX7_limit_19 : decode cX7_limit 19 = .ok (.aload_n 0, 1) := by decide +kernel
theorem dX7_limit_20 : decode cX7_limit 20 = .ok (.iload_n 1, 1) := by decide +kernel
theorem dX7_limit_21 : decode cX7_limit 21 = .ok (.putfield 49, 3) := by decide +kernel
theorem dX7_limit_24 : decode cX7_limit 24 = .ok (.iload_n 2, 1) := by decide +kernel
theorem dX7_limit_25 : decode cX7_limit 25 = .ok (.ireturn, 1) := by decide +kernel
set_option maxRecDepth 20000 in
theorem ggX7_plan_X4_init : GoodIn wsX7_plan wsX4_init := goodIn_r _ [10, 11, 12, 13, 14, 15, 16, 72, 73, 74, 75, 76, 77, 78] (by decide +kernel) (by decide +kernel)
set_option maxRecDepth 20000 in
theorem gX7_plan_X4_init_n53 : GoodIn wsX7_plan (wsX4_init) := ggX7_plan_X4_init
set_option maxRecDepth 20000 in
theorem ggX7_plan_X4_draw : GoodIn wsX7_plan wsX4_draw := goodIn_r _ [19, 20, 21, 22, 23, 24, 25, 15, 16, 26, 27, 28, 29, 12, 13, 14, 30, 31, 32, 33, 34, 35, 36, 37, 38, 39, 40, 41, 42, 43, 44, 45, 46, 47, 48, 49, 50, 51, 4, 52, 53, 54, 55, 56, 57, 58, 59, 60, 61, 79, 80, 81, 82, 83, 84, 85, 86, 72, 73, 74, 75, 76, 77, 78] (by decide +kernel) (by decide +kernel)
set_option maxRecDepth 20000 in
theorem gX7_plan_X4_draw_n58 : GoodIn wsX7_plan (wsX4_draw) := ggX7_plan_X4_draw
theorem dX7_plan_0 : decode cX7_plan 0 = .ok (.aload_n 0, 1) := by decide +kernel
theorem dX7_plan_1 : decode cX7_plan 1 = .ok (.getfield 62, 3) := by decide +kernel
theorem dX7_plan_4 : decode cX7_plan 4 = .ok (.bipush 8, 2) := by decide +kernel
theorem dX7_plan_6 : decode cX7_plan 6 = .ok (.if_icmp .lt 6, 3) := by decide +kernel
theorem dX7_plan_9 : decode cX7_plan 9 = .ok (.bipush (-4), 2) := by decide +kernel
theorem dX7_plan_11 : decode cX7_plan 11 = .ok (.ireturn, 1) := by decide +kernel
theorem dX7_plan_12 : decode cX7_plan 12 = .ok (.aload_n 0, 1) := by decide +kernel
theorem dX7_plan_13 : decode cX7_plan 13 = .ok (.new 16, 3) := by decide +kernel
theorem dX7_plan_16 : decode cX7_plan 16 = .ok (.dup, 1) := by decide +kernel
theorem dX7_plan_17 : decode cX7_plan 17 = .ok (.invokespecial 53, 3) := by decide +kernel
theorem dX7_plan_20 : decode cX7_plan 20 = .ok (.putfield 54, 3) := by decide +kernel
theorem dX7_plan_23 : decode cX7_plan 23 = .ok (.aload_n 0, 1) := by decide +kernel
theorem dX7_plan_24 : decode cX7_plan 24 = .ok (.getfield 54, 3) := by decide +kernel
theorem dX7_plan_27 : decode cX7_plan 27 = .ok (.aload_n 0, 1) := by decide +kernel
theorem dX7_plan_28 : decode cX7_plan 28 = .ok (.getfield 10, 3) := by decide +kernel
theorem dX7_plan_31 : decode cX7_plan 31 = .ok (.aload_n 0, 1) := by decide +kernel
theorem dX7_plan_32 : decode cX7_plan 32 = .ok (.getfield 49, 3) := by decide +kernel
theorem dX7_plan_35 : decode cX7_plan 35 = .ok (.invokevirtual 58, 3) := by decide +kernel
theorem dX7_plan_38 : decode cX7_plan 38 = .ok (.aload_n 0, 1) := by decide +kernel
theorem dX7_plan_39 : decode cX7_plan 39 = .ok (.getfield 18, 3) := by decide +kernel
theorem dX7_plan_42 : decode cX7_plan 42 = .ok (.aload_n 0, 1) := by decide +kernel
theorem dX7_plan_43 : decode cX7_plan 43 = .ok (.getfield 62, 3) := by decide +kernel
theorem dX7_plan_46 : decode cX7_plan 46 = .ok (.aload_n 0, 1) := by decide +kernel
theorem dX7_plan_47 : decode cX7_plan 47 = .ok (.getfield 54, 3) := by decide +kernel
theorem dX7_plan_50 : decode cX7_plan 50 = .ok (.aastore, 1) := by decide +kernel
theorem dX7_plan_51 : decode cX7_plan 51 = .ok (.aload_n 0, 1) := by decide +kernel
theorem dX7_plan_52 : decode cX7_plan 52 = .ok (.dup, 1) := by decide +kernel
theorem dX7_plan_53 : decode cX7_plan 53 = .ok (.getfield 62, 3) := by decide +kernel
theorem dX7_plan_56 : decode cX7_plan 56 = .ok (.iconst 1, 1) := by decide +kernel
theorem dX7_plan_57 : decode cX7_plan 57 = .ok (.iadd, 1) := by decide +kernel
theorem dX7_plan_58 : decode cX7_plan 58 = .ok (.putfield 62, 3) := by decide +kernel
theorem dX7_plan_61 : decode cX7_plan 61 = .ok (.aload_n 0, 1) := by decide +kernel
theorem dX7_plan_62 : decode cX7_plan 62 = .ok (.getfield 62, 3) := by decide +kernel
theorem dX7_plan_65 : decode cX7_plan 65 = .ok (.iconst 1, 1) := by decide +kernel
theorem dX7_plan_66 : decode cX7_plan 66 = .ok (.isub, 1) := by decide +kernel
theorem dX7_plan_67 : decode cX7_plan 67 = .ok (.ireturn, 1) := by decide +kernel
set_option maxRecDepth 20000 in
theorem ggX7_kind_X7_planOf : GoodIn wsX7_kind wsX7_planOf := goodIn_r _ [6, 7, 8, 23, 24, 25, 26, 27, 28, 29, 30, 31, 32] (by decide +kernel) (by decide +kernel)
set_option maxRecDepth 20000 in
theorem gX7_kind_X7_planOf : GoodIn wsX7_kind (wsV RX7 83 RX7 yX7_planOf wsX7_planOf) := goodIn_app (goodIn_of _ (by decide +kernel)) ggX7_kind_X7_planOf
set_option maxRecDepth 20000 in
theorem ggX7_kind_X7_isCall : GoodIn wsX7_kind wsX7_isCall := goodIn_r _ [12, 1, 23, 24, 25, 26, 27, 28, 29, 30, 31, 32, 33, 34, 35] (by decide +kernel) (by decide +kernel)
set_option maxRecDepth 20000 in
theorem gX7_kind_X7_isCall : GoodIn wsX7_kind (wsV RX7 79 RX7 yX7_isCall wsX7_isCall) := goodIn_app (goodIn_of _ (by decide +kernel)) ggX7_kind_X7_isCall
set_option maxRecDepth 20000 in
theorem ggX7_kind_X4_kindOf : GoodIn wsX7_kind wsX4_kindOf := goodIn_r _ [16, 17, 18, 19, 20, 21, 5, 22, 36, 37, 38, 39, 40, 41, 42, 33, 34, 35] (by decide +kernel) (by decide +kernel)
set_option maxRecDepth 20000 in
theorem gX7_kind_X4_kindOf_n87 : GoodIn wsX7_kind (wsX4_kindOf) := ggX7_kind_X4_kindOf
theorem dX7_kind_0 : decode cX7_kind 0 = .ok (.aload_n 0, 1) := by decide +kernel
theorem dX7_kind_1 : decode cX7_kind 1 = .ok (.iload_n 1, 1) := by decide +kernel
theorem dX7_kind_2 : decode cX7_kind 2 = .ok (.invokevirtual 83, 3) := by decide +kernel
theorem dX7_kind_5 : decode cX7_kind 5 = .ok (.astore_n 3, 1) := by decide +kernel
theorem dX7_kind_6 : decode cX7_kind 6 = .ok (.aload_n 3, 1) := by decide +kernel
theorem dX7_kind_7 : decode cX7_kind 7 = .ok (.ifnull 11, 3) := by decide +kernel
theorem dX7_kind_10 : decode cX7_kind 10 = .ok (.aload_n 0, 1) := by decide +kernel
theorem dX7_kind_11 : decode cX7_kind 11 = .ok (.iload_n 2, 1) := by decide +kernel
theorem dX7_kind_12 : decode cX7_kind 12 = .ok (.invokevirtual 79, 3) := by decide +kernel
theorem dX7_kind_15 : decode cX7_kind 15 = .ok (.ifCond .ne 5, 3) := by decide +kernel
theorem dX7_kind_18 : decode cX7_kind 18 = .ok (.iconst (-1), 1) := by decide +kernel
theorem dX7_kind_19 : decode cX7_kind 19 = .ok (.ireturn, 1) := by decide +kernel
theorem dX7_kind_20 : decode cX7_kind 20 = .ok (.aload_n 3, 1) := by decide +kernel
theorem dX7_kind_21 : decode cX7_kind 21 = .ok (.aload_n 0, 1) := by decide +kernel
theorem dX7_kind_22 : decode cX7_kind 22 = .ok (.getfield 10, 3) := by decide +kernel
theorem dX7_kind_25 : decode cX7_kind 25 = .ok (.iload_n 2, 1) := by decide +kernel
theorem dX7_kind_26 : decode cX7_kind 26 = .ok (.invokevirtual 87, 3) := by decide +kernel
theorem dX7_kind_29 : decode cX7_kind 29 = .ok (.ireturn, 1) := by decide +kernel
set_option maxRecDepth 20000 in
theorem ggX7_adds_X7_planOf : GoodIn wsX7_adds wsX7_planOf := goodIn_r _ [5, 6, 7, 23, 24, 25, 26, 27, 28, 29, 30, 31, 32] (by decide +kernel) (by decide +kernel)
set_option maxRecDepth 20000 in
theorem gX7_adds_X7_planOf : GoodIn wsX7_adds (wsV RX7 83 RX7 yX7_planOf wsX7_planOf) := goodIn_app (goodIn_of _ (by decide +kernel)) ggX7_adds_X7_planOf
set_option maxRecDepth 20000 in
theorem ggX7_adds_X7_isCall : GoodIn wsX7_adds wsX7_isCall := goodIn_r _ [11, 12, 23, 24, 25, 26, 27, 28, 29, 30, 31, 32, 33, 34, 35] (by decide +kernel) (by decide +kernel)
set_option maxRecDepth 20000 in
theorem gX7_adds_X7_isCall : GoodIn wsX7_adds (wsV RX7 79 RX7 yX7_isCall wsX7_isCall) := goodIn_app (goodIn_of _ (by decide +kernel)) ggX7_adds_X7_isCall
set_option maxRecDepth 20000 in
theorem ggX7_adds_X7_has : GoodIn wsX7_adds wsX7_has := goodIn_r _ [15] (by decide +kernel) (by decide +kernel)
set_option maxRecDepth 20000 in
theorem gX7_adds_X7_has : GoodIn wsX7_adds (va_wsS RX7 94 yX7_has wsX7_has) := goodIn_app (goodIn_of _ (by decide +kernel)) ggX7_adds_X7_has
theorem dX7_adds_0 : decode cX7_adds 0 = .ok (.aload_n 0, 1) := by decide +kernel
theorem dX7_adds_1 : decode cX7_adds 1 = .ok (.iload_n 1, 1) := by decide +kernel
theorem dX7_adds_2 : decode cX7_adds 2 = .ok (.invokevirtual 83, 3) := by decide +kernel
theorem dX7_adds_5 : decode cX7_adds 5 = .ok (.astore_n 3, 1) := by decide +kernel
theorem dX7_adds_6 : decode cX7_adds 6 = .ok (.aload_n 3, 1) := by decide +kernel
theorem dX7_adds_7 : decode cX7_adds 7 = .ok (.ifnull 11, 3) := by decide +kernel
theorem dX7_adds_10 : decode cX7_adds 10 = .ok (.aload_n 0, 1) := by decide +kernel
theorem dX7_adds_11 : decode cX7_adds 11 = .ok (.iload_n 2, 1) := by decide +kernel
theorem dX7_adds_12 : decode cX7_adds 12 = .ok (.invokevirtual 79, 3) := by decide +kernel
theorem dX7_adds_15 : decode cX7_adds 15 = .ok (.ifCond .ne 5, 3) := by decide +kernel
theorem dX7_adds_18 : decode cX7_adds 18 = .ok (.iconst (-1), 1) := by decide +kernel
theorem dX7_adds_19 : decode cX7_adds 19 = .ok (.ireturn, 1) := by decide +kernel
theorem dX7_adds_20 : decode cX7_adds 20 = .ok (.aload_n 3, 1) := by decide +kernel
theorem dX7_adds_21 : decode cX7_adds 21 = .ok (.getfield 91, 3) := by decide +kernel
theorem dX7_adds_24 : decode cX7_adds 24 = .ok (.iload_n 2, 1) := by decide +kernel
theorem dX7_adds_25 : decode cX7_adds 25 = .ok (.invokestatic 94, 3) := by decide +kernel
theorem dX7_adds_28 : decode cX7_adds 28 = .ok (.ifCond .eq 12, 3) := by decide +kernel
theorem dX7_adds_31 : decode cX7_adds 31 = .ok (.aload_n 3, 1) := by decide +kernel
theorem dX7_adds_32 : decode cX7_adds 32 = .ok (.getfield 98, 3) := by decide +kernel
theorem dX7_adds_35 : decode cX7_adds 35 = .ok (.iload_n 2, 1) := by decide +kernel
theorem dX7_adds_36 : decode cX7_adds 36 = .ok (.iaload, 1) := by decide +kernel
theorem dX7_adds_37 : decode cX7_adds 37 = .ok (.goto 5, 3) := by decide +kernel
theorem dX7_adds_40 : decode cX7_adds 40 = .ok (.bipush (-9), 2) := by decide +kernel
theorem dX7_adds_42 : decode cX7_adds 42 = .ok (.ireturn, 1) := by decide +kernel
set_option maxRecDepth 20000 in
theorem ggX7_ways_X7_planOf : GoodIn wsX7_ways wsX7_planOf := goodIn_r _ [5, 6, 7, 18, 19, 20, 21, 22, 23, 24, 25, 26, 27] (by decide +kernel) (by decide +kernel)
set_option maxRecDepth 20000 in
theorem gX7_ways_X7_planOf : GoodIn wsX7_ways (wsV RX7 83 RX7 yX7_planOf wsX7_planOf) := goodIn_app (goodIn_of _ (by decide +kernel)) ggX7_ways_X7_planOf
set_option maxRecDepth 20000 in
theorem ggX7_ways_X7_isRoutine : GoodIn wsX7_ways wsX7_isRoutine := goodIn_r _ [10] (by decide +kernel) (by decide +kernel)
set_option maxRecDepth 20000 in
theorem gX7_ways_X7_isRoutine : GoodIn wsX7_ways (va_wsS RX7 65 yX7_isRoutine wsX7_isRoutine) := goodIn_app (goodIn_of _ (by decide +kernel)) ggX7_ways_X7_isRoutine
theorem dX7_ways_0 : decode cX7_ways 0 = .ok (.aload_n 0, 1) := by decide +kernel
theorem dX7_ways_1 : decode cX7_ways 1 = .ok (.iload_n 1, 1) := by decide +kernel
theorem dX7_ways_2 : decode cX7_ways 2 = .ok (.invokevirtual 83, 3) := by decide +kernel
theorem dX7_ways_5 : decode cX7_ways 5 = .ok (.astore_n 3, 1) := by decide +kernel
theorem dX7_ways_6 : decode cX7_ways 6 = .ok (.aload_n 3, 1) := by decide +kernel
theorem dX7_ways_7 : decode cX7_ways 7 = .ok (.ifnull 10, 3) := by decide +kernel
theorem dX7_ways_10 : decode cX7_ways 10 = .ok (.iload_n 2, 1) := by decide +kernel
theorem dX7_ways_11 : decode cX7_ways 11 = .ok (.invokestatic 65, 3) := by decide +kernel
theorem dX7_ways_14 : decode cX7_ways 14 = .ok (.ifCond .ne 5, 3) := by decide +kernel
theorem dX7_ways_17 : decode cX7_ways 17 = .ok (.iconst (-1), 1) := by decide +kernel
theorem dX7_ways_18 : decode cX7_ways 18 = .ok (.ireturn, 1) := by decide +kernel
theorem dX7_ways_19 : decode cX7_ways 19 = .ok (.aload_n 3, 1) := by decide +kernel
theorem dX7_ways_20 : decode cX7_ways 20 = .ok (.getfield 101, 3) := by decide +kernel
theorem dX7_ways_23 : decode cX7_ways 23 = .ok (.iload_n 2, 1) := by decide +kernel
theorem dX7_ways_24 : decode cX7_ways 24 = .ok (.iaload, 1) := by decide +kernel
theorem dX7_ways_25 : decode cX7_ways 25 = .ok (.ireturn, 1) := by decide +kernel
set_option maxRecDepth 20000 in
theorem ggX7_ofPlan_X7_planOf : GoodIn wsX7_ofPlan wsX7_planOf := goodIn_r _ [5, 6, 7, 15, 16, 17, 18, 19, 20, 21, 22, 23, 24] (by decide +kernel) (by decide +kernel)
set_option maxRecDepth 20000 in
theorem gX7_ofPlan_X7_planOf : GoodIn wsX7_ofPlan (wsV RX7 83 RX7 yX7_planOf wsX7_planOf) := goodIn_app (goodIn_of _ (by decide +kernel)) ggX7_ofPlan_X7_planOf
theorem dX7_ofPlan_0 : decode cX7_ofPlan 0 = .ok (.aload_n 0, 1) := by decide +kernel
theorem dX7_ofPlan_1 : decode cX7_ofPlan 1 = .ok (.iload_n 1, 1) := by decide +kernel
theorem dX7_ofPlan_2 : decode cX7_ofPlan 2 = .ok (.invokevirtual 83, 3) := by decide +kernel
theorem dX7_ofPlan_5 : decode cX7_ofPlan 5 = .ok (.astore_n 3, 1) := by decide +kernel
theorem dX7_ofPlan_6 : decode cX7_ofPlan 6 = .ok (.aload_n 3, 1) := by decide +kernel
theorem dX7_ofPlan_7 : decode cX7_ofPlan 7 = .ok (.ifnonnull 5, 3) := by decide +kernel
theorem dX7_ofPlan_10 : decode cX7_ofPlan 10 = .ok (.iconst (-1), 1) := by decide +kernel
theorem dX7_ofPlan_11 : decode cX7_ofPlan 11 = .ok (.ireturn, 1) := by decide +kernel
theorem dX7_ofPlan_12 : decode cX7_ofPlan 12 = .ok (.iload_n 2, 1) := by decide +kernel
theorem dX7_ofPlan_13 : decode cX7_ofPlan 13 = .ok (.tableswitch 51 0 3 #[31, 36, 41, 46], 31) := by decide +kernel
theorem dX7_ofPlan_44 : decode cX7_ofPlan 44 = .ok (.aload_n 3, 1) := by decide +kernel
theorem dX7_ofPlan_45 : decode cX7_ofPlan 45 = .ok (.getfield 104, 3) := by decide +kernel
theorem dX7_ofPlan_48 : decode cX7_ofPlan 48 = .ok (.ireturn, 1) := by decide +kernel
theorem dX7_ofPlan_49 : decode cX7_ofPlan 49 = .ok (.aload_n 3, 1) := by decide +kernel
theorem dX7_ofPlan_50 : decode cX7_ofPlan 50 = .ok (.getfield 107, 3) := by decide +kernel
theorem dX7_ofPlan_53 : decode cX7_ofPlan 53 = .ok (.ireturn, 1) := by decide +kernel
theorem dX7_ofPlan_54 : decode cX7_ofPlan 54 = .ok (.aload_n 3, 1) := by decide +kernel
theorem dX7_ofPlan_55 : decode cX7_ofPlan 55 = .ok (.getfield 110, 3) := by decide +kernel
theorem dX7_ofPlan_58 : decode cX7_ofPlan 58 = .ok (.ireturn, 1) := by decide +kernel
theorem dX7_ofPlan_59 : decode cX7_ofPlan 59 = .ok (.aload_n 3, 1) := by decide +kernel
theorem dX7_ofPlan_60 : decode cX7_ofPlan 60 = .ok (.getfield 91, 3) := by decide +kernel
theorem dX7_ofPlan_63 : decode cX7_ofPlan 63 = .ok (.ireturn, 1) := by decide +kernel
theorem dX7_ofPlan_64 : decode cX7_ofPlan 64 = .ok (.bipush (-2), 2) := by decide +kernel
theorem dX7_ofPlan_66 : decode cX7_ofPlan 66 = .ok (.ireturn, 1) := by decide +kernel
set_option maxRecDepth 20000 in
theorem ggX7_decoded_X7_planOf : GoodIn wsX7_decoded wsX7_planOf := goodIn_r _ [8, 9, 10, 28, 29, 30, 31, 32, 33, 34, 35, 36, 37] (by decide +kernel) (by decide +kernel)
set_option maxRecDepth 20000 in
theorem gX7_decoded_X7_planOf : GoodIn wsX7_decoded (wsV RX7 83 RX7 yX7_planOf wsX7_planOf) := goodIn_app (goodIn_of _ (by decide +kernel)) ggX7_decoded_X7_planOf
set_option maxRecDepth 20000 in
theorem ggX7_decoded_X7_isRoutine : GoodIn wsX7_decoded wsX7_isRoutine := goodIn_r _ [13] (by decide +kernel) (by decide +kernel)
set_option maxRecDepth 20000 in
theorem gX7_decoded_X7_isRoutine : GoodIn wsX7_decoded (va_wsS RX7 65 yX7_isRoutine wsX7_isRoutine) := goodIn_app (goodIn_of _ (by decide +kernel)) ggX7_decoded_X7_isRoutine
set_option maxRecDepth 20000 in
theorem ggX7_decoded_X3_read : GoodIn wsX7_decoded wsX3_read := goodIn_r _ [17, 18, 19, 20, 21, 15, 22, 23, 7, 24, 38, 39, 40, 41, 42, 43, 44, 45, 46, 47, 48, 49] (by decide +kernel) (by decide +kernel)
set_option maxRecDepth 20000 in
theorem gX7_decoded_X3_read_n114 : GoodIn wsX7_decoded (wsX3_read) := ggX7_decoded_X3_read
set_option maxRecDepth 20000 in
theorem ggX7_decoded_X3_nth : GoodIn wsX7_decoded wsX3_nth := goodIn_r _ [27, 18, 19, 38, 39] (by decide +kernel) (by decide +kernel)
set_option maxRecDepth 20000 in
theorem gX7_decoded_X3_nth_n119 : GoodIn wsX7_decoded (wsX3_nth) := ggX7_decoded_X3_nth
theorem dX7_decoded_0 : decode cX7_decoded 0 = .ok (.aload_n 0, 1) := by decide +kernel
theorem dX7_decoded_1 : decode cX7_decoded 1 = .ok (.iload_n 1, 1) := by decide +kernel
theorem dX7_decoded_2 : decode cX7_decoded 2 = .ok (.invokevirtual 83, 3) := by decide +kernel
theorem dX7_decoded_5 : decode cX7_decoded 5 = .ok (.astore 6, 2) := by decide +kernel
theorem dX7_decoded_7 : decode cX7_decoded 7 = .ok (.aload 6, 2) := by decide +kernel
theorem dX7_decoded_9 : decode cX7_decoded 9 = .ok (.ifnull 17, 3) := by decide +kernel
theorem dX7_decoded_12 : decode cX7_decoded 12 = .ok (.iload_n 2, 1) := by decide +kernel
theorem dX7_decoded_13 : decode cX7_decoded 13 = .ok (.invokestatic 65, 3) := by decide +kernel
theorem dX7_decoded_16 : decode cX7_decoded 16 = .ok (.ifCond .eq 10, 3) := by decide +kernel
theorem dX7_decoded_19 : decode cX7_decoded 19 = .ok (.iload_n 3, 1) := by decide +kernel
theorem dX7_decoded_20 : decode cX7_decoded 20 = .ok (.invokestatic 65, 3) := by decide +kernel
theorem dX7_decoded_23 : decode cX7_decoded 23 = .ok (.ifCond .ne 5, 3) := by decide +kernel
theorem dX7_decoded_26 : decode cX7_decoded 26 = .ok (.iconst (-1), 1) := by decide +kernel
theorem dX7_decoded_27 : decode cX7_decoded 27 = .ok (.ireturn, 1) := by decide +kernel
theorem dX7_decoded_28 : decode cX7_decoded 28 = .ok (.iload 4, 2) := by decide +kernel
theorem dX7_decoded_30 : decode cX7_decoded 30 = .ok (.ifCond .lt 16, 3) := by decide +kernel
theorem dX7_decoded_33 : decode cX7_decoded 33 = .ok (.iload 4, 2) := by decide +kernel
theorem dX7_decoded_35 : decode cX7_decoded 35 = .ok (.ldc 113, 2) := by decide +kernel
theorem dX7_decoded_37 : decode cX7_decoded 37 = .ok (.if_icmp .gt 9, 3) := by decide +kernel
theorem dX7_decoded_40 : decode cX7_decoded 40 = .ok (.iload 5, 2) := by decide +kernel
theorem dX7_decoded_42 : decode cX7_decoded 42 = .ok (.iconst (-1), 1) := by decide +kernel
theorem dX7_decoded_43 : decode cX7_decoded 43 = .ok (.if_icmp .ge 6, 3) := by decide +kernel
theorem dX7_decoded_46 : decode cX7_decoded 46 = .ok (.bipush (-2), 2) := by decide +kernel
theorem dX7_decoded_48 : decode cX7_decoded 48 = .ok (.ireturn, 1) := by decide +kernel
theorem dX7_decoded_49 : decode cX7_decoded 49 = .ok (.aload_n 0, 1) := by decide +kernel
theorem dX7_decoded_50 : decode cX7_decoded 50 = .ok (.getfield 45, 3) := by decide +kernel
theorem dX7_decoded_53 : decode cX7_decoded 53 = .ok (.aload 6, 2) := by decide +kernel
theorem dX7_decoded_55 : decode cX7_decoded 55 = .ok (.aload_n 0, 1) := by decide +kernel
theorem dX7_decoded_56 : decode cX7_decoded 56 = .ok (.getfield 10, 3) := by decide +kernel
theorem dX7_decoded_59 : decode cX7_decoded 59 = .ok (.iload_n 2, 1) := by decide +kernel
theorem dX7_decoded_60 : decode cX7_decoded 60 = .ok (.iload_n 3, 1) := by decide +kernel
theorem dX7_decoded_61 : decode cX7_decoded 61 = .ok (.iload 4, 2) := by decide +kernel
theorem dX7_decoded_63 : decode cX7_decoded 63 = .ok (.invokevirtual 114, 3) := by decide +kernel
theorem dX7_decoded_66 : decode cX7_decoded 66 = .ok (.ifCond .ne 6, 3) := by decide +kernel
theorem dX7_decoded_69 : decode cX7_decoded 69 = .ok (.bipush (-9), 2) := by decide +kernel
theorem dX7_decoded_71 : decode cX7_decoded 71 = .ok (.ireturn, 1) := by decide +kernel
theorem dX7_decoded_72 : decode cX7_decoded 72 = .ok (.iload 5, 2) := by decide +kernel
theorem dX7_decoded_74 : decode cX7_decoded 74 = .ok (.iconst (-1), 1) := by decide +kernel
theorem dX7_decoded_75 : decode cX7_decoded 75 = .ok (.if_icmp .ne 13, 3) := by decide +kernel
theorem dX7_decoded_78 : decode cX7_decoded 78 = .ok (.aload_n 0, 1) := by decide +kernel
theorem dX7_decoded_79 : decode cX7_decoded 79 = .ok (.getfield 45, 3) := by decide +kernel
theorem dX7_decoded_82 : decode cX7_decoded 82 = .ok (.getfield 118, 3) := by decide +kernel
theorem dX7_decoded_85 : decode cX7_decoded 85 = .ok (.goto 12, 3) := by decide +kernel
theorem dX7_decoded_88 : decode cX7_decoded 88 = .ok (.aload_n 0, 1) := by decide +kernel
theorem dX7_decoded_89 : decode cX7_decoded 89 = .ok (.getfield 45, 3) := by decide +kernel
theorem dX7_decoded_92 : decode cX7_decoded 92 = .ok (.iload 5, 2) := by decide +kernel
theorem dX7_decoded_94 : decode cX7_decoded 94 = .ok (.invokevirtual 119, 3) := by decide +kernel
theorem dX7_decoded_97 : decode cX7_decoded 97 = .ok (.ireturn, 1) := by decide +kernel
set_option maxRecDepth 20000 in
theorem ggX7_call_X7_isCall : GoodIn wsX7_call wsX7_isCall := goodIn_r _ [7, 1, 14, 15, 16, 17, 18, 19, 20, 21, 22, 23, 24, 25, 26] (by decide +kernel) (by decide +kernel)
set_option maxRecDepth 20000 in
theorem gX7_call_X7_isCall : GoodIn wsX7_call (wsV RX7 79 RX7 yX7_isCall wsX7_isCall) := goodIn_app (goodIn_of _ (by decide +kernel)) ggX7_call_X7_isCall
set_option maxRecDepth 20000 in
theorem ggX7_call_X0_here : GoodIn wsX7_call wsX0_here := goodIn_r _ [11, 12, 13, 27, 28, 24, 25, 26] (by decide +kernel) (by decide +kernel)
set_option maxRecDepth 20000 in
theorem gX7_call_X0_here_n123 : GoodIn wsX7_call (wsX0_here) := ggX7_call_X0_here
theorem dX7_call_0 : decode cX7_call 0 = .ok (.aload_n 0, 1) := by decide +kernel
theorem dX7_call_1 : decode cX7_call 1 = .ok (.iload_n 1, 1) := by decide +kernel
theorem dX7_call_2 : decode cX7_call 2 = .ok (.invokevirtual 79, 3) := by decide +kernel
theorem dX7_call_5 : decode cX7_call 5 = .ok (.ifCond .ne 5, 3) := by decide +kernel
theorem dX7_call_8 : decode cX7_call 8 = .ok (.iconst (-1), 1) := by decide +kernel
theorem dX7_call_9 : decode cX7_call 9 = .ok (.ireturn, 1) := by decide +kernel
theorem dX7_call_10 : decode cX7_call 10 = .ok (.aload_n 0, 1) := by decide +kernel
theorem dX7_call_11 : decode cX7_call 11 = .ok (.getfield 10, 3) := by decide +kernel
theorem dX7_call_14 : decode cX7_call 14 = .ok (.getfield 72, 3) := by decide +kernel
theorem dX7_call_17 : decode cX7_call 17 = .ok (.iload_n 1, 1) := by decide +kernel
theorem dX7_call_18 : decode cX7_call 18 = .ok (.iaload, 1) := by decide +kernel
theorem dX7_call_19 : decode cX7_call 19 = .ok (.aload_n 0, 1) := by decide +kernel
theorem dX7_call_20 : decode cX7_call 20 = .ok (.getfield 25, 3) := by decide +kernel
theorem dX7_call_23 : decode cX7_call 23 = .ok (.aload_n 0, 1) := by decide +kernel
theorem dX7_call_24 : decode cX7_call 24 = .ok (.getfield 10, 3) := by decide +kernel
theorem dX7_call_27 : decode cX7_call 27 = .ok (.invokevirtual 123, 3) := by decide +kernel
theorem dX7_call_30 : decode cX7_call 30 = .ok (.if_icmp .eq 6, 3) := by decide +kernel
theorem dX7_call_33 : decode cX7_call 33 = .ok (.bipush (-3), 2) := by decide +kernel
theorem dX7_call_35 : decode cX7_call 35 = .ok (.ireturn, 1) := by decide +kernel
theorem dX7_call_36 : decode cX7_call 36 = .ok (.aload_n 0, 1) := by decide +kernel
theorem dX7_call_37 : decode cX7_call 37 = .ok (.getfield 25, 3) := by decide +kernel
theorem dX7_call_40 : decode cX7_call 40 = .ok (.getfield 127, 3) := by decide +kernel
theorem dX7_call_43 : decode cX7_call 43 = .ok (.bipush 30, 2) := by decide +kernel
theorem dX7_call_45 : decode cX7_call 45 = .ok (.if_icmp .lt 6, 3) := by decide +kernel
theorem dX7_call_48 : decode cX7_call 48 = .ok (.bipush (-4), 2) := by decide +kernel
theorem dX7_call_50 : decode cX7_call 50 = .ok (.ireturn, 1) := by decide +kernel
theorem dX7_call_51 : decode cX7_call 51 = .ok (.aload_n 0, 1) := by decide +kernel
theorem dX7_call_52 : decode cX7_call 52 = .ok (.getfield 25, 3) := by decide +kernel
theorem dX7_call_55 : decode cX7_call 55 = .ok (.getfield 128, 3) := by decide +kernel
theorem dX7_call_58 : decode cX7_call 58 = .ok (.aload_n 0, 1) := by decide +kernel
theorem dX7_call_59 : decode cX7_call 59 = .ok (.getfield 25, 3) := by decide +kernel
theorem dX7_call_62 : decode cX7_call 62 = .ok (.getfield 127, 3) := by decide +kernel
theorem dX7_call_65 : decode cX7_call 65 = .ok (.iload_n 1, 1) := by decide +kernel
theorem dX7_call_66 : decode cX7_call 66 = .ok (.iastore, 1) := by decide +kernel
theorem dX7_call_67 : decode cX7_call 67 = .ok (.aload_n 0, 1) := by decide +kernel
theorem dX7_call_68 : decode cX7_call 68 = .ok (.getfield 25, 3) := by decide +kernel
theorem dX7_call_71 : decode cX7_call 71 = .ok (.dup, 1) := by decide +kernel
theorem dX7_call_72 : decode cX7_call 72 = .ok (.getfield 127, 3) := by decide +kernel
theorem dX7_call_75 : decode cX7_call 75 = .ok (.iconst 1, 1) := by decide +kernel
theorem dX7_call_76 : decode cX7_call 76 = .ok (.iadd, 1) := by decide +kernel
theorem dX7_call_77 : decode cX7_call 77 = .ok (.putfield 127, 3) := by decide +kernel
theorem dX7_call_80 : decode cX7_call 80 = .ok (.aload_n 0, 1) := by decide +kernel
theorem dX7_call_81 : decode cX7_call 81 = .ok (.getfield 25, 3) := by decide +kernel
theorem dX7_call_84 : decode cX7_call 84 = .ok (.aload_n 0, 1) := by decide +kernel
theorem dX7_call_85 : decode cX7_call 85 = .ok (.getfield 10, 3) := by decide +kernel
theorem dX7_call_88 : decode cX7_call 88 = .ok (.invokevirtual 123, 3) := by decide +kernel
theorem dX7_call_91 : decode cX7_call 91 = .ok (.ireturn, 1) := by decide +kernel
set_option maxRecDepth 20000 in
theorem ggX7_back_X0_here : GoodIn wsX7_back wsX0_here := goodIn_r _ [6, 7, 8, 19, 20, 21, 22, 23] (by decide +kernel) (by decide +kernel)
set_option maxRecDepth 20000 in
theorem gX7_back_X0_here_n123 : GoodIn wsX7_back (wsX0_here) := ggX7_back_X0_here
theorem dX7_back_0 : decode cX7_back 0 = .ok (.aload_n 0, 1) := by decide +kernel
theorem dX7_back_1 : decode cX7_back 1 = .ok (.getfield 25, 3) := by decide +kernel
theorem dX7_back_4 : decode cX7_back 4 = .ok (.getfield 127, 3) := by decide +kernel
theorem dX7_back_7 : decode cX7_back 7 = .ok (.ifCond .gt 6, 3) := by decide +kernel
theorem dX7_back_10 : decode cX7_back 10 = .ok (.bipush (-3), 2) := by decide +kernel
theorem dX7_back_12 : decode cX7_back 12 = .ok (.ireturn, 1) := by decide +kernel
theorem dX7_back_13 : decode cX7_back 13 = .ok (.aload_n 0, 1) := by decide +kernel
theorem dX7_back_14 : decode cX7_back 14 = .ok (.getfield 25, 3) := by decide +kernel
theorem dX7_back_17 : decode cX7_back 17 = .ok (.dup, 1) := by decide +kernel
theorem dX7_back_18 : decode cX7_back 18 = .ok (.getfield 127, 3) := by decide +kernel
theorem dX7_back_21 : decode cX7_back 21 = .ok (.iconst 1, 1) := by decide +kernel
theorem dX7_back_22 : decode cX7_back 22 = .ok (.isub, 1) := by decide +kernel
theorem dX7_back_23 : decode cX7_back 23 = .ok (.putfield 127, 3) := by decide +kernel
theorem dX7_back_26 : decode cX7_back 26 = .ok (.aload_n 0, 1) := by decide +kernel
theorem dX7_back_27 : decode cX7_back 27 = .ok (.getfield 25, 3) := by decide +kernel
theorem dX7_back_30 : decode cX7_back 30 = .ok (.aload_n 0, 1) := by decide +kernel
theorem dX7_back_31 : decode cX7_back 31 = .ok (.getfield 10, 3) := by decide +kernel
theorem dX7_back_34 : decode cX7_back 34 = .ok (.invokevirtual 123, 3) := by decide +kernel
theorem dX7_back_37 : decode cX7_back 37 = .ok (.ireturn, 1) := by decide +kernel
theorem dX7_running_0 : decode cX7_running 0 = .ok (.iload_n 1, 1) := by decide +kernel
theorem dX7_running_1 : decode cX7_running 1 = .ok (.ifCond .ge 6, 3) := by decide +kernel
theorem dX7_running_4 : decode cX7_running 4 = .ok (.bipush (-2), 2) := by decide +kernel
theorem dX7_running_6 : decode cX7_running 6 = .ok (.ireturn, 1) := by decide +kernel
theorem dX7_running_7 : decode cX7_running 7 = .ok (.iload_n 1, 1) := by decide +kernel
theorem dX7_running_8 : decode cX7_running 8 = .ok (.aload_n 0, 1) := by decide +kernel
theorem dX7_running_9 : decode cX7_running 9 = .ok (.getfield 25, 3) := by decide +kernel
theorem dX7_running_12 : decode cX7_running 12 = .ok (.getfield 127, 3) := by decide +kernel
theorem dX7_running_15 : decode cX7_running 15 = .ok (.if_icmp .ge 15, 3) := by decide +kernel
theorem dX7_running_18 : decode cX7_running 18 = .ok (.aload_n 0, 1) := by decide +kernel
theorem dX7_running_19 : decode cX7_running 19 = .ok (.getfield 25, 3) := by decide +kernel
theorem dX7_running_22 : decode cX7_running 22 = .ok (.getfield 128, 3) := by decide +kernel
theorem dX7_running_25 : decode cX7_running 25 = .ok (.iload_n 1, 1) := by decide +kernel
theorem dX7_running_26 : decode cX7_running 26 = .ok (.iaload, 1) := by decide +kernel
theorem dX7_running_27 : decode cX7_running 27 = .ok (.goto 5, 3) := by decide +kernel
theorem dX7_running_30 : decode cX7_running 30 = .ok (.bipush (-9), 2) := by decide +kernel
theorem dX7_running_32 : decode cX7_running 32 = .ok (.ireturn, 1) := by decide +kernel
set_option maxRecDepth 20000 in
theorem ggX7_piece_X7_planOf : GoodIn wsX7_piece wsX7_planOf := goodIn_r _ [8, 9, 10, 25, 26, 27, 28, 29, 30, 31, 32, 33, 34] (by decide +kernel) (by decide +kernel)
set_option maxRecDepth 20000 in
theorem gX7_piece_X7_planOf : GoodIn wsX7_piece (wsV RX7 83 RX7 yX7_planOf wsX7_planOf) := goodIn_app (goodIn_of _ (by decide +kernel)) ggX7_piece_X7_planOf
set_option maxRecDepth 20000 in
theorem ggX7_piece_X2_write : GoodIn wsX7_piece wsX2_write := goodIn_r _ [14, 15, 16, 17, 18, 19, 20, 12, 21, 22, 23, 7, 24, 35, 36, 37, 38, 39, 40, 41, 42, 43, 44, 45, 46, 47, 48, 49, 50] (by decide +kernel) (by decide +kernel)
set_option maxRecDepth 20000 in
theorem gX7_piece_X2_write_n131 : GoodIn wsX7_piece (wsX2_write) := ggX7_piece_X2_write
theorem dX7_piece_0 : decode cX7_piece 0 = .ok (.aload_n 0, 1) := by decide +kernel
theorem dX7_piece_1 : decode cX7_piece 1 = .ok (.iload_n 1, 1) := by decide +kernel
theorem dX7_piece_2 : decode cX7_piece 2 = .ok (.invokevirtual 83, 3) := by decide +kernel
theorem dX7_piece_5 : decode cX7_piece 5 = .ok (.astore 4, 2) := by decide +kernel
theorem dX7_piece_7 : decode cX7_piece 7 = .ok (.aload 4, 2) := by decide +kernel
theorem dX7_piece_9 : decode cX7_piece 9 = .ok (.ifnonnull 5, 3) := by decide +kernel
theorem dX7_piece_12 : decode cX7_piece 12 = .ok (.iconst (-1), 1) := by decide +kernel
theorem dX7_piece_13 : decode cX7_piece 13 = .ok (.ireturn, 1) := by decide +kernel
theorem dX7_piece_14 : decode cX7_piece 14 = .ok (.iload_n 2, 1) := by decide +kernel
theorem dX7_piece_15 : decode cX7_piece 15 = .ok (.ifCond .lt 12, 3) := by decide +kernel
theorem dX7_piece_18 : decode cX7_piece 18 = .ok (.iload_n 3, 1) := by decide +kernel
theorem dX7_piece_19 : decode cX7_piece 19 = .ok (.ifCond .lt 8, 3) := by decide +kernel
theorem dX7_piece_22 : decode cX7_piece 22 = .ok (.iload_n 3, 1) := by decide +kernel
theorem dX7_piece_23 : decode cX7_piece 23 = .ok (.iconst 2, 1) := by decide +kernel
theorem dX7_piece_24 : decode cX7_piece 24 = .ok (.if_icmp .le 6, 3) := by decide +kernel
theorem dX7_piece_27 : decode cX7_piece 27 = .ok (.bipush (-2), 2) := by decide +kernel
theorem dX7_piece_29 : decode cX7_piece 29 = .ok (.ireturn, 1) := by decide +kernel
theorem dX7_piece_30 : decode cX7_piece 30 = .ok (.aload_n 0, 1) := by decide +kernel
theorem dX7_piece_31 : decode cX7_piece 31 = .ok (.getfield 38, 3) := by decide +kernel
theorem dX7_piece_34 : decode cX7_piece 34 = .ok (.aload 4, 2) := by decide +kernel
theorem dX7_piece_36 : decode cX7_piece 36 = .ok (.aload_n 0, 1) := by decide +kernel
theorem dX7_piece_37 : decode cX7_piece 37 = .ok (.getfield 10, 3) := by decide +kernel
theorem dX7_piece_40 : decode cX7_piece 40 = .ok (.aload_n 0, 1) := by decide +kernel
theorem dX7_piece_41 : decode cX7_piece 41 = .ok (.getfield 25, 3) := by decide +kernel
theorem dX7_piece_44 : decode cX7_piece 44 = .ok (.invokevirtual 131, 3) := by decide +kernel
theorem dX7_piece_47 : decode cX7_piece 47 = .ok (.iload_n 2, 1) := by decide +kernel
theorem dX7_piece_48 : decode cX7_piece 48 = .ok (.aload_n 0, 1) := by decide +kernel
theorem dX7_piece_49 : decode cX7_piece 49 = .ok (.getfield 38, 3) := by decide +kernel
theorem dX7_piece_52 : decode cX7_piece 52 = .ok (.getfield 135, 3) := by decide +kernel
theorem dX7_piece_55 : decode cX7_piece 55 = .ok (.if_icmp .lt 6, 3) := by decide +kernel
theorem dX7_piece_58 : decode cX7_piece 58 = .ok (.bipush (-9), 2) := by decide +kernel
theorem dX7_piece_60 : decode cX7_piece 60 = .ok (.ireturn, 1) := by decide +kernel
theorem dX7_piece_61 : decode cX7_piece 61 = .ok (.iload_n 3, 1) := by decide +kernel
theorem dX7_piece_62 : decode cX7_piece 62 = .ok (.lookupswitch 46 #[(0, 26), (1, 36)], 26) := by decide +kernel
theorem dX7_piece_88 : decode cX7_piece 88 = .ok (.aload_n 0, 1) := by decide +kernel
theorem dX7_piece_89 : decode cX7_piece 89 = .ok (.getfield 38, 3) := by decide +kernel
theorem dX7_piece_92 : decode cX7_piece 92 = .ok (.getfield 136, 3) := by decide +kernel
theorem dX7_piece_95 : decode cX7_piece 95 = .ok (.iload_n 2, 1) := by decide +kernel
theorem dX7_piece_96 : decode cX7_piece 96 = .ok (.iaload, 1) := by decide +kernel
theorem dX7_piece_97 : decode cX7_piece 97 = .ok (.ireturn, 1) := by decide +kernel
theorem dX7_piece_98 : decode cX7_piece 98 = .ok (.aload_n 0, 1) := by decide +kernel
theorem dX7_piece_99 : decode cX7_piece 99 = .ok (.getfield 38, 3) := by decide +kernel
theorem dX7_piece_102 : decode cX7_piece 102 = .ok (.getfield 139, 3) := by decide +kernel
theorem dX7_piece_105 : decode cX7_piece 105 = .ok (.iload_n 2, 1) := by decide +kernel
theorem dX7_piece_106 : decode cX7_piece 106 = .ok (.iaload, 1) := by decide +kernel
theorem dX7_piece_107 : decode cX7_piece 107 = .ok (.ireturn, 1) := by decide +kernel
theorem dX7_piece_108 : decode cX7_piece 108 = .ok (.aload_n 0, 1) := by decide +kernel
theorem dX7_piece_109 : decode cX7_piece 109 = .ok (.getfield 38, 3) := by decide +kernel
theorem dX7_piece_112 : decode cX7_piece 112 = .ok (.getfield 142, 3) := by decide +kernel
theorem dX7_piece_115 : decode cX7_piece 115 = .ok (.iload_n 2, 1) := by decide +kernel
theorem dX7_piece_116 : decode cX7_piece 116 = .ok (.iaload, 1) := by decide +kernel
theorem dX7_piece_117 : decode cX7_piece 117 = .ok (.ireturn, 1) := by decide +kernel
set_option maxRecDepth 20000 in
theorem ggX7_pieces_X7_planOf : GoodIn wsX7_pieces wsX7_planOf := goodIn_r _ [8, 9, 10, 25, 26, 27, 28, 29, 30, 31, 32, 33, 34] (by decide +kernel) (by decide +kernel)
set_option maxRecDepth 20000 in
theorem gX7_pieces_X7_planOf : GoodIn wsX7_pieces (wsV RX7 83 RX7 yX7_planOf wsX7_planOf) := goodIn_app (goodIn_of _ (by decide +kernel)) ggX7_pieces_X7_planOf
set_option maxRecDepth 20000 in
theorem ggX7_pieces_X2_write : GoodIn wsX7_pieces wsX2_write := goodIn_r _ [14, 15, 16, 17, 18, 19, 20, 12, 21, 22, 23, 7, 24, 35, 36, 37, 38, 39, 40, 41, 42, 43, 44, 45, 46, 47, 48, 49, 50] (by decide +kernel) (by decide +kernel)
set_option maxRecDepth 20000 in
theorem gX7_pieces_X2_write_n131 : GoodIn wsX7_pieces (wsX2_write) := ggX7_pieces_X2_write
theorem dX7_pieces_0 : decode cX7_pieces 0 = .ok (.aload_n 0, 1) := by decide +kernel
theorem dX7_pieces_1 : decode cX7_pieces 1 = .ok (.iload_n 1, 1) := by decide +kernel
theorem dX7_pieces_2 : decode cX7_pieces 2 = .ok (.invokevirtual 83, 3) := by decide +kernel
theorem dX7_pieces_5 : decode cX7_pieces 5 = .ok (.astore_n 2, 1) := by decide +kernel
theorem dX7_pieces_6 : decode cX7_pieces 6 = .ok (.aload_n 2, 1) := by decide +kernel
theorem dX7_pieces_7 : decode cX7_pieces 7 = .ok (.ifnonnull 5, 3) := by decide +kernel
theorem dX7_pieces_10 : decode cX7_pieces 10 = .ok (.iconst (-1), 1) := by decide +kernel
theorem dX7_pieces_11 : decode cX7_pieces 11 = .ok (.ireturn, 1) := by decide +kernel
theorem dX7_pieces_12 : decode cX7_pieces 12 = .ok (.aload_n 0, 1) := by decide +kernel
theorem dX7_pieces_13 : decode cX7_pieces 13 = .ok (.getfield 38, 3) := by decide +kernel
theorem dX7_pieces_16 : decode cX7_pieces 16 = .ok (.aload_n 2, 1) := by decide +kernel
theorem dX7_pieces_17 : decode cX7_pieces 17 = .ok (.aload_n 0, 1) := by decide +kernel
theorem dX7_pieces_18 : decode cX7_pieces 18 = .ok (.getfield 10, 3) := by decide +kernel
theorem dX7_pieces_21 : decode cX7_pieces 21 = .ok (.aload_n 0, 1) := by decide +kernel
theorem dX7_pieces_22 : decode cX7_pieces 22 = .ok (.getfield 25, 3) := by decide +kernel
theorem dX7_pieces_25 : decode cX7_pieces 25 = .ok (.invokevirtual 131, 3) := by decide +kernel
theorem dX7_pieces_28 : decode cX7_pieces 28 = .ok (.aload_n 0, 1) := by decide +kernel
theorem dX7_pieces_29 : decode cX7_pieces 29 = .ok (.getfield 38, 3) := by decide +kernel
theorem dX7_pieces_32 : decode cX7_pieces 32 = .ok (.getfield 135, 3) := by decide +kernel
theorem dX7_pieces_35 : decode cX7_pieces 35 = .ok (.ireturn, 1) := by decide +kernel
set_option maxRecDepth 20000 in
theorem ggX7_snap_X2_write : GoodIn wsX7_snap wsX2_write := goodIn_r _ [14, 15, 16, 17, 18, 19, 20, 12, 21, 22, 23, 24, 25, 79, 80, 81, 82, 83, 84, 85, 86, 87, 88, 89, 90, 91, 92, 93, 94] (by decide +kernel) (by decide +kernel)
set_option maxRecDepth 20000 in
theorem gX7_snap_X2_write_n131 : GoodIn wsX7_snap (wsX2_write) := ggX7_snap_X2_write
set_option maxRecDepth 20000 in
theorem ggX7_snap_X0_here : GoodIn wsX7_snap wsX0_here := goodIn_r _ [29, 30, 31, 83, 84, 92, 93, 94] (by decide +kernel) (by decide +kernel)
set_option maxRecDepth 20000 in
theorem gX7_snap_X0_here_n123 : GoodIn wsX7_snap (wsX0_here) := ggX7_snap_X0_here
set_option maxRecDepth 20000 in
theorem ggX7_snap_X5_init : GoodIn wsX7_snap wsX5_init := goodIn_r _ [33, 34, 35, 36, 37, 38, 39, 40, 41, 42, 12, 43, 44, 15, 16, 45, 46, 47, 48, 49, 50, 51, 52, 53, 54, 55, 56, 57, 58, 59, 60, 61, 62, 63, 74, 75, 76, 77, 78, 79, 80, 81, 82, 83, 84] (by decide +kernel) (by decide +kernel)
set_option maxRecDepth 20000 in
theorem gX7_snap_X5_init_n148 : GoodIn wsX7_snap (wsX5_init) := ggX7_snap_X5_init
theorem dX7_snap_0 : decode cX7_snap 0 = .ok (.aload_n 0, 1) := by decide +kernel
theorem dX7_snap_1 : decode cX7_snap 1 = .ok (.getfield 145, 3) := by decide +kernel
theorem dX7_snap_4 : decode cX7_snap 4 = .ok (.bipush 10, 2) := by decide +kernel
theorem dX7_snap_6 : decode cX7_snap 6 = .ok (.if_icmp .lt 6, 3) := by decide +kernel
theorem dX7_snap_9 : decode cX7_snap 9 = .ok (.bipush (-4), 2) := by decide +kernel
theorem dX7_snap_11 : decode cX7_snap 11 = .ok (.ireturn, 1) := by decide +kernel
theorem dX7_snap_12 : decode cX7_snap 12 = .ok (.aload_n 0, 1) := by decide +kernel
theorem dX7_snap_13 : decode cX7_snap 13 = .ok (.getfield 38, 3) := by decide +kernel
theorem dX7_snap_16 : decode cX7_snap 16 = .ok (.aload_n 0, 1) := by decide +kernel
theorem dX7_snap_17 : decode cX7_snap 17 = .ok (.getfield 54, 3) := by decide +kernel
theorem dX7_snap_20 : decode cX7_snap 20 = .ok (.aload_n 0, 1) := by decide +kernel
theorem dX7_snap_21 : decode cX7_snap 21 = .ok (.getfield 10, 3) := by decide +kernel
theorem dX7_snap_24 : decode cX7_snap 24 = .ok (.aload_n 0, 1) := by decide +kernel
theorem dX7_snap_25 : decode cX7_snap 25 = .ok (.getfield 25, 3) := by decide +kernel
theorem dX7_snap_28 : decode cX7_snap 28 = .ok (.invokevirtual 131, 3) := by decide +kernel
theorem dX7_snap_31 : decode cX7_snap 31 = .ok (.aload_n 0, 1) := by decide +kernel
theorem dX7_snap_32 : decode cX7_snap 32 = .ok (.getfield 31, 3) := by decide +kernel
theorem dX7_snap_35 : decode cX7_snap 35 = .ok (.aload_n 0, 1) := by decide +kernel
theorem dX7_snap_36 : decode cX7_snap 36 = .ok (.getfield 145, 3) := by decide +kernel
theorem dX7_snap_39 : decode cX7_snap 39 = .ok (.new 29, 3) := by decide +kernel
theorem dX7_snap_42 : decode cX7_snap 42 = .ok (.dup, 1) := by decide +kernel
theorem dX7_snap_43 : decode cX7_snap 43 = .ok (.aload_n 0, 1) := by decide +kernel
theorem dX7_snap_44 : decode cX7_snap 44 = .ok (.getfield 62, 3) := by decide +kernel
theorem dX7_snap_47 : decode cX7_snap 47 = .ok (.iconst 1, 1) := by decide +kernel
theorem dX7_snap_48 : decode cX7_snap 48 = .ok (.isub, 1) := by decide +kernel
theorem dX7_snap_49 : decode cX7_snap 49 = .ok (.aload_n 0, 1) := by decide +kernel
theorem dX7_snap_50 : decode cX7_snap 50 = .ok (.getfield 25, 3) := by decide +kernel
theorem dX7_snap_53 : decode cX7_snap 53 = .ok (.aload_n 0, 1) := by decide +kernel
theorem dX7_snap_54 : decode cX7_snap 54 = .ok (.getfield 10, 3) := by decide +kernel
theorem dX7_snap_57 : decode cX7_snap 57 = .ok (.invokevirtual 123, 3) := by decide +kernel
theorem dX7_snap_60 : decode cX7_snap 60 = .ok (.aload_n 0, 1) := by decide +kernel
theorem dX7_snap_61 : decode cX7_snap 61 = .ok (.getfield 38, 3) := by decide +kernel
theorem dX7_snap_64 : decode cX7_snap 64 = .ok (.aload_n 0, 1) := by decide +kernel
theorem dX7_snap_65 : decode cX7_snap 65 = .ok (.getfield 25, 3) := by decide +kernel
theorem dX7_snap_68 : decode cX7_snap 68 = .ok (.invokespecial 148, 3) := by decide +kernel
theorem dX7_snap_71 : decode cX7_snap 71 = .ok (.aastore, 1) := by decide +kernel
theorem dX7_snap_72 : decode cX7_snap 72 = .ok (.aload_n 0, 1) := by decide +kernel
theorem dX7_snap_73 : decode cX7_snap 73 = .ok (.dup, 1) := by decide +kernel
theorem dX7_snap_74 : decode cX7_snap 74 = .ok (.getfield 145, 3) := by decide +kernel
theorem dX7_snap_77 : decode cX7_snap 77 = .ok (.iconst 1, 1) := by decide +kernel
theorem dX7_snap_78 : decode cX7_snap 78 = .ok (.iadd, 1) := by decide +kernel
theorem dX7_snap_79 : decode cX7_snap 79 = .ok (.putfield 145, 3) := by decide +kernel
theorem dX7_snap_82 : decode cX7_snap 82 = .ok (.aload_n 0, 1) := by decide +kernel
theorem dX7_snap_83 : decode cX7_snap 83 = .ok (.getfield 145, 3) := by decide +kernel
theorem dX7_snap_86 : decode cX7_snap 86 = .ok (.iconst 1, 1) := by decide +kernel
theorem dX7_snap_87 : decode cX7_snap 87 = .ok (.isub, 1) := by decide +kernel
theorem dX7_snap_88 : decode cX7_snap 88 = .ok (.ireturn, 1) := by decide +kernel
set_option maxRecDepth 20000 in
theorem ggX7_ofSnap_X7_snapOf : GoodIn wsX7_ofSnap wsX7_snapOf := goodIn_r _ [5, 6, 7, 13, 14, 15, 16, 17, 18, 19, 20, 21, 22] (by decide +kernel) (by decide +kernel)
set_option maxRecDepth 20000 in
theorem gX7_ofSnap_X7_snapOf : GoodIn wsX7_ofSnap (wsV RX7 151 RX7 yX7_snapOf wsX7_snapOf) := goodIn_app (goodIn_of _ (by decide +kernel)) ggX7_ofSnap_X7_snapOf
theorem dX7_ofSnap_0 : decode cX7_ofSnap 0 = .ok (.aload_n 0, 1) := by decide +kernel
theorem dX7_ofSnap_1 : decode cX7_ofSnap 1 = .ok (.iload_n 1, 1) := by decide +kernel
theorem dX7_ofSnap_2 : decode cX7_ofSnap 2 = .ok (.invokevirtual 151, 3) := by decide +kernel
theorem dX7_ofSnap_5 : decode cX7_ofSnap 5 = .ok (.astore_n 3, 1) := by decide +kernel
theorem dX7_ofSnap_6 : decode cX7_ofSnap 6 = .ok (.aload_n 3, 1) := by decide +kernel
theorem dX7_ofSnap_7 : decode cX7_ofSnap 7 = .ok (.ifnonnull 5, 3) := by decide +kernel
theorem dX7_ofSnap_10 : decode cX7_ofSnap 10 = .ok (.iconst (-1), 1) := by decide +kernel
theorem dX7_ofSnap_11 : decode cX7_ofSnap 11 = .ok (.ireturn, 1) := by decide +kernel
theorem dX7_ofSnap_12 : decode cX7_ofSnap 12 = .ok (.iload_n 2, 1) := by decide +kernel
theorem dX7_ofSnap_13 : decode cX7_ofSnap 13 = .ok (.tableswitch 61 0 4 #[35, 40, 45, 50, 55], 35) := by decide +kernel
theorem dX7_ofSnap_48 : decode cX7_ofSnap 48 = .ok (.aload_n 3, 1) := by decide +kernel
theorem dX7_ofSnap_49 : decode cX7_ofSnap 49 = .ok (.getfield 155, 3) := by decide +kernel
theorem dX7_ofSnap_52 : decode cX7_ofSnap 52 = .ok (.ireturn, 1) := by decide +kernel
theorem dX7_ofSnap_53 : decode cX7_ofSnap 53 = .ok (.aload_n 3, 1) := by decide +kernel
theorem dX7_ofSnap_54 : decode cX7_ofSnap 54 = .ok (.getfield 158, 3) := by decide +kernel
theorem dX7_ofSnap_57 : decode cX7_ofSnap 57 = .ok (.ireturn, 1) := by decide +kernel
theorem dX7_ofSnap_58 : decode cX7_ofSnap 58 = .ok (.aload_n 3, 1) := by decide +kernel
theorem dX7_ofSnap_59 : decode cX7_ofSnap 59 = .ok (.getfield 160, 3) := by decide +kernel
theorem dX7_ofSnap_62 : decode cX7_ofSnap 62 = .ok (.ireturn, 1) := by decide +kernel
theorem dX7_ofSnap_63 : decode cX7_ofSnap 63 = .ok (.aload_n 3, 1) := by decide +kernel
theorem dX7_ofSnap_64 : decode cX7_ofSnap 64 = .ok (.getfield 163, 3) := by decide +kernel
theorem dX7_ofSnap_67 : decode cX7_ofSnap 67 = .ok (.ireturn, 1) := by decide +kernel
theorem dX7_ofSnap_68 : decode cX7_ofSnap 68 = .ok (.aload_n 3, 1) := by decide +kernel
theorem dX7_ofSnap_69 : decode cX7_ofSnap 69 = .ok (.getfield 166, 3) := by decide +kernel
theorem dX7_ofSnap_72 : decode cX7_ofSnap 72 = .ok (.arraylength, 1) := by decide +kernel
theorem dX7_ofSnap_73 : decode cX7_ofSnap 73 = .ok (.ireturn, 1) := by decide +kernel
theorem dX7_ofSnap_74 : decode cX7_ofSnap 74 = .ok (.bipush (-2), 2) := by decide +kernel
theorem dX7_ofSnap_76 : decode cX7_ofSnap 76 = .ok (.ireturn, 1) := by decide +kernel
set_option maxRecDepth 20000 in
theorem ggX7_snapped_X7_snapOf : GoodIn wsX7_snapped wsX7_snapOf := goodIn_r _ [5, 6, 7, 13, 14, 15, 16, 17, 18, 19, 20, 21, 22] (by decide +kernel) (by decide +kernel)
set_option maxRecDepth 20000 in
theorem gX7_snapped_X7_snapOf : GoodIn wsX7_snapped (wsV RX7 151 RX7 yX7_snapOf wsX7_snapOf) := goodIn_app (goodIn_of _ (by decide +kernel)) ggX7_snapped_X7_snapOf
theorem dX7_snapped_0 : decode cX7_snapped 0 = .ok (.aload_n 0, 1) := by decide +kernel
theorem dX7_snapped_1 : decode cX7_snapped 1 = .ok (.iload_n 1, 1) := by decide +kernel
theorem dX7_snapped_2 : decode cX7_snapped 2 = .ok (.invokevirtual 151, 3) := by decide +kernel
theorem dX7_snapped_5 : decode cX7_snapped 5 = .ok (.astore_n 3, 1) := by decide +kernel
theorem dX7_snapped_6 : decode cX7_snapped 6 = .ok (.aload_n 3, 1) := by decide +kernel
theorem dX7_snapped_7 : decode cX7_snapped 7 = .ok (.ifnonnull 5, 3) := by decide +kernel
theorem dX7_snapped_10 : decode cX7_snapped 10 = .ok (.iconst (-1), 1) := by decide +kernel
theorem dX7_snapped_11 : decode cX7_snapped 11 = .ok (.ireturn, 1) := by decide +kernel
theorem dX7_snapped_12 : decode cX7_snapped 12 = .ok (.iload_n 2, 1) := by decide +kernel
theorem dX7_snapped_13 : decode cX7_snapped 13 = .ok (.ifCond .ge 6, 3) := by decide +kernel
theorem dX7_snapped_16 : decode cX7_snapped 16 = .ok (.bipush (-2), 2) := by decide +kernel
theorem dX7_snapped_18 : decode cX7_snapped 18 = .ok (.ireturn, 1) := by decide +kernel
theorem dX7_snapped_19 : decode cX7_snapped 19 = .ok (.iload_n 2, 1) := by decide +kernel
theorem dX7_snapped_20 : decode cX7_snapped 20 = .ok (.aload_n 3, 1) := by decide +kernel
theorem dX7_snapped_21 : decode cX7_snapped 21 = .ok (.getfield 166, 3) := by decide +kernel
theorem dX7_snapped_24 : decode cX7_snapped 24 = .ok (.arraylength, 1) := by decide +kernel
theorem dX7_snapped_25 : decode cX7_snapped 25 = .ok (.if_icmp .ge 12, 3) := by decide +kernel
theorem dX7_snapped_28 : decode cX7_snapped 28 = .ok (.aload_n 3, 1) := by decide +kernel
theorem dX7_snapped_29 : decode cX7_snapped 29 = .ok (.getfield 166, 3) := by decide +kernel
theorem dX7_snapped_32 : decode cX7_snapped 32 = .ok (.iload_n 2, 1) := by decide +kernel
theorem dX7_snapped_33 : decode cX7_snapped 33 = .ok (.iaload, 1) := by decide +kernel
theorem dX7_snapped_34 : decode cX7_snapped 34 = .ok (.goto 5, 3) := by decide +kernel
theorem dX7_snapped_37 : decode cX7_snapped 37 = .ok (.bipush (-9), 2) := by decide +kernel
theorem dX7_snapped_39 : decode cX7_snapped 39 = .ok (.ireturn, 1) := by decide +kernel
set_option maxRecDepth 20000 in
theorem ggX7_same_X7_snapOf : GoodIn wsX7_same wsX7_snapOf := goodIn_r _ [5, 6, 7, 16, 17, 18, 19, 20, 21, 22, 23, 24, 25] (by decide +kernel) (by decide +kernel)
set_option maxRecDepth 20000 in
theorem gX7_same_X7_snapOf : GoodIn wsX7_same (wsV RX7 151 RX7 yX7_snapOf wsX7_snapOf) := goodIn_app (goodIn_of _ (by decide +kernel)) ggX7_same_X7_snapOf
set_option maxRecDepth 20000 in
theorem ggX7_same_X7_sameRows : GoodIn wsX7_same wsX7_sameRows := goodIn_r _ [10] (by decide +kernel) (by decide +kernel)
set_option maxRecDepth 20000 in
theorem gX7_same_X7_sameRows : GoodIn wsX7_same (va_wsS RX7 167 yX7_sameRows wsX7_sameRows) := goodIn_app (goodIn_of _ (by decide +kernel)) ggX7_same_X7_sameRows
theorem dX7_same_0 : decode cX7_same 0 = .ok (.aload_n 0, 1) := by decide +kernel
theorem dX7_same_1 : decode cX7_same 1 = .ok (.iload_n 1, 1) := by decide +kernel
theorem dX7_same_2 : decode cX7_same 2 = .ok (.invokevirtual 151, 3) := by decide +kernel
theorem dX7_same_5 : decode cX7_same 5 = .ok (.astore_n 3, 1) := by decide +kernel
theorem dX7_same_6 : decode cX7_same 6 = .ok (.aload_n 0, 1) := by decide +kernel
theorem dX7_same_7 : decode cX7_same 7 = .ok (.iload_n 2, 1) := by decide +kernel
theorem dX7_same_8 : decode cX7_same 8 = .ok (.invokevirtual 151, 3) := by decide +kernel
theorem dX7_same_11 : decode cX7_same 11 = .ok (.astore 4, 2) := by decide +kernel
theorem dX7_same_13 : decode cX7_same 13 = .ok (.aload_n 3, 1) := by decide +kernel
theorem dX7_same_14 : decode cX7_same 14 = .ok (.ifnull 8, 3) := by decide +kernel
theorem dX7_same_17 : decode cX7_same 17 = .ok (.aload 4, 2) := by decide +kernel
theorem dX7_same_19 : decode cX7_same 19 = .ok (.ifnonnull 5, 3) := by decide +kernel
theorem dX7_same_22 : decode cX7_same 22 = .ok (.iconst (-1), 1) := by decide +kernel
theorem dX7_same_23 : decode cX7_same 23 = .ok (.ireturn, 1) := by decide +kernel
theorem dX7_same_24 : decode cX7_same 24 = .ok (.aload_n 3, 1) := by decide +kernel
theorem dX7_same_25 : decode cX7_same 25 = .ok (.getfield 166, 3) := by decide +kernel
theorem dX7_same_28 : decode cX7_same 28 = .ok (.aload 4, 2) := by decide +kernel
theorem dX7_same_30 : decode cX7_same 30 = .ok (.getfield 166, 3) := by decide +kernel
theorem dX7_same_33 : decode cX7_same 33 = .ok (.invokestatic 167, 3) := by decide +kernel
theorem dX7_same_36 : decode cX7_same 36 = .ok (.ifCond .eq 7, 3) := by decide +kernel
theorem dX7_same_39 : decode cX7_same 39 = .ok (.iconst 1, 1) := by decide +kernel
theorem dX7_same_40 : decode cX7_same 40 = .ok (.goto 4, 3) := by decide +kernel
theorem dX7_same_43 : decode cX7_same 43 = .ok (.iconst 0, 1) := by decide +kernel
theorem dX7_same_44 : decode cX7_same 44 = .ok (.ireturn, 1) := by decide +kernel
set_option maxRecDepth 20000 in
theorem ggX7_many_X0_here : GoodIn wsX7_many wsX0_here := goodIn_r _ [9, 10, 11, 25, 26, 22, 23, 24] (by decide +kernel) (by decide +kernel)
set_option maxRecDepth 20000 in
theorem gX7_many_X0_here_n123 : GoodIn wsX7_many (wsX0_here) := ggX7_many_X0_here
theorem dX7_many_0 : decode cX7_many 0 = .ok (.iload_n 1, 1) := by decide +kernel
theorem dX7_many_1 : decode cX7_many 1 = .ok (.tableswitch 82 0 5 #[39, 47, 52, 60, 65, 77], 39) := by decide +kernel
theorem dX7_many_40 : decode cX7_many 40 = .ok (.aload_n 0, 1) := by decide +kernel
theorem dX7_many_41 : decode cX7_many 41 = .ok (.getfield 10, 3) := by decide +kernel
theorem dX7_many_44 : decode cX7_many 44 = .ok (.getfield 69, 3) := by decide +kernel
theorem dX7_many_47 : decode cX7_many 47 = .ok (.ireturn, 1) := by decide +kernel
theorem dX7_many_48 : decode cX7_many 48 = .ok (.aload_n 0, 1) := by decide +kernel
theorem dX7_many_49 : decode cX7_many 49 = .ok (.getfield 62, 3) := by decide +kernel
theorem dX7_many_52 : decode cX7_many 52 = .ok (.ireturn, 1) := by decide +kernel
theorem dX7_many_53 : decode cX7_many 53 = .ok (.aload_n 0, 1) := by decide +kernel
theorem dX7_many_54 : decode cX7_many 54 = .ok (.getfield 25, 3) := by decide +kernel
theorem dX7_many_57 : decode cX7_many 57 = .ok (.getfield 127, 3) := by decide +kernel
theorem dX7_many_60 : decode cX7_many 60 = .ok (.ireturn, 1) := by decide +kernel
theorem dX7_many_61 : decode cX7_many 61 = .ok (.aload_n 0, 1) := by decide +kernel
theorem dX7_many_62 : decode cX7_many 62 = .ok (.getfield 145, 3) := by decide +kernel
theorem dX7_many_65 : decode cX7_many 65 = .ok (.ireturn, 1) := by decide +kernel
theorem dX7_many_66 : decode cX7_many 66 = .ok (.aload_n 0, 1) := by decide +kernel
theorem dX7_many_67 : decode cX7_many 67 = .ok (.getfield 25, 3) := by decide +kernel
theorem dX7_many_70 : decode cX7_many 70 = .ok (.aload_n 0, 1) := by decide +kernel
theorem dX7_many_71 : decode cX7_many 71 = .ok (.getfield 10, 3) := by decide +kernel
theorem dX7_many_74 : decode cX7_many 74 = .ok (.invokevirtual 123, 3) := by decide +kernel
theorem dX7_many_77 : decode cX7_many 77 = .ok (.ireturn, 1) := by decide +kernel
theorem dX7_many_78 : decode cX7_many 78 = .ok (.aload_n 0, 1) := by decide +kernel
theorem dX7_many_79 : decode cX7_many 79 = .ok (.getfield 49, 3) := by decide +kernel
theorem dX7_many_82 : decode cX7_many 82 = .ok (.ireturn, 1) := by decide +kernel
theorem dX7_many_83 : decode cX7_many 83 = .ok (.bipush (-2), 2) := by decide +kernel
theorem dX7_many_85 : decode cX7_many 85 = .ok (.ireturn, 1) := by decide +kernel
theorem dX7_isRoutine_0 : decode cX7_isRoutine 0 = .ok (.iload_n 0, 1) := by decide +kernel
theorem dX7_isRoutine_1 : decode cX7_isRoutine 1 = .ok (.ifCond .lt 13, 3) := by decide +kernel
theorem dX7_isRoutine_4 : decode cX7_isRoutine 4 = .ok (.iload_n 0, 1) := by decide +kernel
theorem dX7_isRoutine_5 : decode cX7_isRoutine 5 = .ok (.bipush 10, 2) := by decide +kernel
theorem dX7_isRoutine_7 : decode cX7_isRoutine 7 = .ok (.if_icmp .ge 7, 3) := by decide +kernel
theorem dX7_isRoutine_10 : decode cX7_isRoutine 10 = .ok (.iconst 1, 1) := by decide +kernel
theorem dX7_isRoutine_11 : decode cX7_isRoutine 11 = .ok (.goto 4, 3) := by decide +kernel
theorem dX7_isRoutine_14 : decode cX7_isRoutine 14 = .ok (.iconst 0, 1) := by decide +kernel
theorem dX7_isRoutine_15 : decode cX7_isRoutine 15 = .ok (.ireturn, 1) := by decide +kernel
theorem dX7_isCall_0 : decode cX7_isCall 0 = .ok (.iload_n 1, 1) := by decide +kernel
theorem dX7_isCall_1 : decode cX7_isCall 1 = .ok (.ifCond .lt 18, 3) := by decide +kernel
theorem dX7_isCall_4 : decode cX7_isCall 4 = .ok (.iload_n 1, 1) := by decide +kernel
theorem dX7_isCall_5 : decode cX7_isCall 5 = .ok (.aload_n 0, 1) := by decide +kernel
theorem dX7_isCall_6 : decode cX7_isCall 6 = .ok (.getfield 10, 3) := by decide +kernel
theorem dX7_isCall_9 : decode cX7_isCall 9 = .ok (.getfield 69, 3) := by decide +kernel
theorem dX7_isCall_12 : decode cX7_isCall 12 = .ok (.if_icmp .ge 7, 3) := by decide +kernel
theorem dX7_isCall_15 : decode cX7_isCall 15 = .ok (.iconst 1, 1) := by decide +kernel
theorem dX7_isCall_16 : decode cX7_isCall 16 = .ok (.goto 4, 3) := by decide +kernel
theorem dX7_isCall_19 : decode cX7_isCall 19 = .ok (.iconst 0, 1) := by decide +kernel
theorem dX7_isCall_20 : decode cX7_isCall 20 = .ok (.ireturn, 1) := by decide +kernel
theorem dX7_planOf_0 : decode cX7_planOf 0 = .ok (.iload_n 1, 1) := by decide +kernel
theorem dX7_planOf_1 : decode cX7_planOf 1 = .ok (.ifCond .lt 26, 3) := by decide +kernel
theorem dX7_planOf_4 : decode cX7_planOf 4 = .ok (.iload_n 1, 1) := by decide +kernel
theorem dX7_planOf_5 : decode cX7_planOf 5 = .ok (.aload_n 0, 1) := by decide +kernel
theorem dX7_planOf_6 : decode cX7_planOf 6 = .ok (.getfield 62, 3) := by decide +kernel
theorem dX7_planOf_9 : decode cX7_planOf 9 = .ok (.if_icmp .ge 18, 3) := by decide +kernel
theorem dX7_planOf_12 : decode cX7_planOf 12 = .ok (.iload_n 1, 1) := by decide +kernel
theorem dX7_planOf_13 : decode cX7_planOf 13 = .ok (.bipush 8, 2) := by decide +kernel
theorem dX7_planOf_15 : decode cX7_planOf 15 = .ok (.if_icmp .ge 12, 3) := by decide +kernel
theorem dX7_planOf_18 : decode cX7_planOf 18 = .ok (.aload_n 0, 1) := by decide +kernel
theorem dX7_planOf_19 : decode cX7_planOf 19 = .ok (.getfield 18, 3) := by decide +kernel
theorem dX7_planOf_22 : decode cX7_planOf 22 = .ok (.iload_n 1, 1) := by decide +kernel
theorem dX7_planOf_23 : decode cX7_planOf 23 = .ok (.aaload, 1) := by decide +kernel
theorem dX7_planOf_24 : decode cX7_planOf 24 = .ok (.goto 4, 3) := by decide +kernel
theorem dX7_planOf_27 : decode cX7_planOf 27 = .ok (.aconst_null, 1) := by decide +kernel
theorem dX7_planOf_28 : decode cX7_planOf 28 = .ok (.areturn, 1) := by decide +kernel
theorem dX7_snapOf_0 : decode cX7_snapOf 0 = .ok (.iload_n 1, 1) := by decide +kernel
theorem dX7_snapOf_1 : decode cX7_snapOf 1 = .ok (.ifCond .lt 26, 3) := by decide +kernel
theorem dX7_snapOf_4 : decode cX7_snapOf 4 = .ok (.iload_n 1, 1) := by decide +kernel
theorem dX7_snapOf_5 : decode cX7_snapOf 5 = .ok (.aload_n 0, 1) := by decide +kernel
theorem dX7_snapOf_6 : decode cX7_snapOf 6 = .ok (.getfield 145, 3) := by decide +kernel
theorem dX7_snapOf_9 : decode cX7_snapOf 9 = .ok (.if_icmp .ge 18, 3) := by decide +kernel
theorem dX7_snapOf_12 : decode cX7_snapOf 12 = .ok (.iload_n 1, 1) := by decide +kernel
theorem dX7_snapOf_13 : decode cX7_snapOf 13 = .ok (.bipush 10, 2) := by decide +kernel
theorem dX7_snapOf_15 : decode cX7_snapOf 15 = .ok (.if_icmp .ge 12, 3) := by decide +kernel
theorem dX7_snapOf_18 : decode cX7_snapOf 18 = .ok (.aload_n 0, 1) := by decide +kernel
theorem dX7_snapOf_19 : decode cX7_snapOf 19 = .ok (.getfield 31, 3) := by decide +kernel
theorem dX7_snapOf_22 : decode cX7_snapOf 22 = .ok (.iload_n 1, 1) := by decide +kernel
theorem dX7_snapOf_23 : decode cX7_snapOf 23 = .ok (.aaload, 1) := by decide +kernel
theorem dX7_snapOf_24 : decode cX7_snapOf 24 = .ok (.goto 4, 3) := by decide +kernel
theorem dX7_snapOf_27 : decode cX7_snapOf 27 = .ok (.aconst_null, 1) := by decide +kernel
theorem dX7_snapOf_28 : decode cX7_snapOf 28 = .ok (.areturn, 1) := by decide +kernel
theorem dX7_has_0 : decode cX7_has 0 = .ok (.iload_n 0, 1) := by decide +kernel
theorem dX7_has_1 : decode cX7_has 1 = .ok (.iload_n 1, 1) := by decide +kernel
theorem dX7_has_2 : decode cX7_has 2 = .ok (.ishr, 1) := by decide +kernel
theorem dX7_has_3 : decode cX7_has 3 = .ok (.iconst 1, 1) := by decide +kernel
theorem dX7_has_4 : decode cX7_has 4 = .ok (.iand, 1) := by decide +kernel
theorem dX7_has_5 : decode cX7_has 5 = .ok (.iconst 1, 1) := by decide +kernel
theorem dX7_has_6 : decode cX7_has 6 = .ok (.if_icmp .ne 7, 3) := by decide +kernel
theorem dX7_has_9 : decode cX7_has 9 = .ok (.iconst 1, 1) := by decide +kernel
theorem dX7_has_10 : decode cX7_has 10 = .ok (.goto 4, 3) := by decide +kernel
theorem dX7_has_13 : decode cX7_has 13 = .ok (.iconst 0, 1) := by decide +kernel
theorem dX7_has_14 : decode cX7_has 14 = .ok (.ireturn, 1) := by decide +kernel
theorem dX7_sameRows_0 : decode cX7_sameRows 0 = .ok (.aload_n 0, 1) := by decide +kernel
theorem dX7_sameRows_1 : decode cX7_sameRows 1 = .ok (.arraylength, 1) := by decide +kernel
theorem dX7_sameRows_2 : decode cX7_sameRows 2 = .ok (.aload_n 1, 1) := by decide +kernel
theorem dX7_sameRows_3 : decode cX7_sameRows 3 = .ok (.arraylength, 1) := by decide +kernel
theorem dX7_sameRows_4 : decode cX7_sameRows 4 = .ok (.if_icmp .eq 5, 3) := by decide +kernel
theorem dX7_sameRows_7 : decode cX7_sameRows 7 = .ok (.iconst 0, 1) := by decide +kernel
theorem dX7_sameRows_8 : decode cX7_sameRows 8 = .ok (.ireturn, 1) := by decide +kernel
theorem dX7_sameRows_9 : decode cX7_sameRows 9 = .ok (.iconst 0, 1) := by decide +kernel
theorem dX7_sameRows_10 : decode cX7_sameRows 10 = .ok (.istore_n 2, 1) := by decide +kernel
theorem dX7_sameRows_11 : decode cX7_sameRows 11 = .ok (.iload_n 2, 1) := by decide +kernel
theorem dX7_sameRows_12 : decode cX7_sameRows 12 = .ok (.aload_n 0, 1) := by decide +kernel
theorem dX7_sameRows_13 : decode cX7_sameRows 13 = .ok (.arraylength, 1) := by decide +kernel
theorem dX7_sameRows_14 : decode cX7_sameRows 14 = .ok (.if_icmp .ge 20, 3) := by decide +kernel
theorem dX7_sameRows_17 : decode cX7_sameRows 17 = .ok (.aload_n 0, 1) := by decide +kernel
theorem dX7_sameRows_18 : decode cX7_sameRows 18 = .ok (.iload_n 2, 1) := by decide +kernel
theorem dX7_sameRows_19 : decode cX7_sameRows 19 = .ok (.iaload, 1) := by decide +kernel
theorem dX7_sameRows_20 : decode cX7_sameRows 20 = .ok (.aload_n 1, 1) := by decide +kernel
theorem dX7_sameRows_21 : decode cX7_sameRows 21 = .ok (.iload_n 2, 1) := by decide +kernel
theorem dX7_sameRows_22 : decode cX7_sameRows 22 = .ok (.iaload, 1) := by decide +kernel
theorem dX7_sameRows_23 : decode cX7_sameRows 23 = .ok (.if_icmp .eq 5, 3) := by decide +kernel
theorem dX7_sameRows_26 : decode cX7_sameRows 26 = .ok (.iconst 0, 1) := by decide +kernel
theorem dX7_sameRows_27 : decode cX7_sameRows 27 = .ok (.ireturn, 1) := by decide +kernel
theorem dX7_sameRows_28 : decode cX7_sameRows 28 = .ok (.iinc 2 1, 3) := by decide +kernel
theorem dX7_sameRows_31 : decode cX7_sameRows 31 = .ok (.goto (-20), 3) := by decide +kernel
theorem dX7_sameRows_34 : decode cX7_sameRows 34 = .ok (.iconst 1, 1) := by decide +kernel
theorem dX7_sameRows_35 : decode cX7_sameRows 35 = .ok (.ireturn, 1) := by decide +kernel
