set_option maxRecDepth 20000 in
theorem ggX8_plan_X8_makesPlan : GoodIn wsX8_plan wsX8_makesPlan := goodIn_r _ [6, 7, 1, 8, 9, 10, 11, 5, 12, 13, 14, 15, 16, 17, 18, 19, 20, 21, 22, 23, 24, 25, 26, 27, 28, 29, 30, 31, 32, 33, 34, 35, 36, 37, 38, 39, 40, 41, 42, 43, 44, 45, 46, 47, 48, 49, 50, 51, 52, 53, 54, 55, 56, 57, 58, 59, 60, 61, 62, 63, 64, 65, 66, 67, 68, 69, 70, 71, 72, 73, 74, 75, 76, 77, 78, 79, 80] (by decide +kernel) (by decide +kernel)
set_option maxRecDepth 20000 in
theorem gX8_plan_X8_makesPlan : GoodIn wsX8_plan (wsV RX8 71 RX8 yX8_makesPlan wsX8_makesPlan) := goodIn_app (goodIn_of _ (by decide +kernel)) ggX8_plan_X8_makesPlan
theorem dX8_plan_0 : decode cX8_plan 0 = .ok (.aload_n 0, 1) := by decide +kernel
theorem dX8_plan_1 : decode cX8_plan 1 = .ok (.getfield 89, 3) := by decide +kernel
theorem dX8_plan_4 : decode cX8_plan 4 = .ok (.bipush 8, 2) := by decide +kernel
theorem dX8_plan_6 : decode cX8_plan 6 = .ok (.if_icmp .ne 6, 3) := by decide +kernel
theorem dX8_plan_9 : decode cX8_plan 9 = .ok (.bipush (-4), 2) := by decide +kernel
theorem dX8_plan_11 : decode cX8_plan 11 = .ok (.ireturn, 1) := by decide +kernel
theorem dX8_plan_12 : decode cX8_plan 12 = .ok (.aload_n 0, 1) := by decide +kernel
theorem dX8_plan_13 : decode cX8_plan 13 = .ok (.invokevirtual 71, 3) := by decide +kernel
theorem dX8_plan_16 : decode cX8_plan 16 = .ok (.aload_n 0, 1) := by decide +kernel
theorem dX8_plan_17 : decode cX8_plan 17 = .ok (.getfield 89, 3) := by decide +kernel
theorem dX8_plan_20 : decode cX8_plan 20 = .ok (.iconst 1, 1) := by decide +kernel
theorem dX8_plan_21 : decode cX8_plan 21 = .ok (.isub, 1) := by decide +kernel
theorem dX8_plan_22 : decode cX8_plan 22 = .ok (.ireturn, 1) := by decide +kernel
set_option maxRecDepth 20000 in
theorem ggX8_isPlain_X8_has : GoodIn wsX8_isPlain wsX8_has := goodIn_r _ [5] (by decide +kernel) (by decide +kernel)
set_option maxRecDepth 20000 in
theorem gX8_isPlain_X8_has : GoodIn wsX8_isPlain (va_wsS RX8 105 yX8_has wsX8_has) := goodIn_app (goodIn_of _ (by decide +kernel)) ggX8_isPlain_X8_has
theorem dX8_isPlain_0 : decode cX8_isPlain 0 = .ok (.aload_n 0, 1) := by decide +kernel
theorem dX8_isPlain_1 : decode cX8_isPlain 1 = .ok (.getfield 32, 3) := by decide +kernel
theorem dX8_isPlain_4 : decode cX8_isPlain 4 = .ok (.iload_n 1, 1) := by decide +kernel
theorem dX8_isPlain_5 : decode cX8_isPlain 5 = .ok (.iaload, 1) := by decide +kernel
theorem dX8_isPlain_6 : decode cX8_isPlain 6 = .ok (.iload_n 2, 1) := by decide +kernel
theorem dX8_isPlain_7 : decode cX8_isPlain 7 = .ok (.invokestatic 105, 3) := by decide +kernel
theorem dX8_isPlain_10 : decode cX8_isPlain 10 = .ok (.ireturn, 1) := by decide +kernel
set_option maxRecDepth 20000 in
theorem ggX8_kind_X8_isPlan : GoodIn wsX8_kind wsX8_isPlan := goodIn_r _ [11, 12, 13, 14, 10, 15, 24, 25, 26, 27, 28, 29, 30, 31, 32, 33, 34, 35, 36, 37, 38, 39, 40, 41, 42, 43, 44, 45, 46, 47, 48, 49, 50, 51] (by decide +kernel) (by decide +kernel)
set_option maxRecDepth 20000 in
theorem gX8_kind_X8_isPlan : GoodIn wsX8_kind (wsV RX8 125 RX8 yX8_isPlan wsX8_isPlan) := goodIn_app (goodIn_of _ (by decide +kernel)) ggX8_kind_X8_isPlan
set_option maxRecDepth 20000 in
theorem ggX8_kind_X8_isCall : GoodIn wsX8_kind wsX8_isCall := goodIn_r _ [19, 20, 13, 14, 10, 15, 24, 25, 26, 27, 28, 29, 30, 31, 32, 33, 34, 35, 36, 37, 38, 39, 40, 41, 42, 43, 44, 45, 46, 47, 48, 49, 50, 51] (by decide +kernel) (by decide +kernel)
set_option maxRecDepth 20000 in
theorem gX8_kind_X8_isCall : GoodIn wsX8_kind (wsV RX8 85 RX8 yX8_isCall wsX8_isCall) := goodIn_app (goodIn_of _ (by decide +kernel)) ggX8_kind_X8_isCall
set_option maxRecDepth 20000 in
theorem ggX8_kind_X8_has : GoodIn wsX8_kind wsX8_has := goodIn_r _ [23] (by decide +kernel) (by decide +kernel)
set_option maxRecDepth 20000 in
theorem gX8_kind_X8_has : GoodIn wsX8_kind (va_wsS RX8 105 yX8_has wsX8_has) := goodIn_app (goodIn_of _ (by decide +kernel)) ggX8_kind_X8_has
theorem dX8_kind_0 : decode cX8_kind 0 = .ok (.aload_n 0, 1) := by decide +kernel
theorem dX8_kind_1 : decode cX8_kind 1 = .ok (.iload_n 1, 1) := by decide +kernel
theorem dX8_kind_2 : decode cX8_kind 2 = .ok (.invokevirtual 125, 3) := by decide +kernel
theorem dX8_kind_5 : decode cX8_kind 5 = .ok (.ifCond .eq 11, 3) := by decide +kernel
theorem dX8_kind_8 : decode cX8_kind 8 = .ok (.aload_n 0, 1) := by decide +kernel
theorem dX8_kind_9 : decode cX8_kind 9 = .ok (.iload_n 2, 1) := by decide +kernel
theorem dX8_kind_10 : decode cX8_kind 10 = .ok (.invokevirtual 85, 3) := by decide +kernel
theorem dX8_kind_13 : decode cX8_kind 13 = .ok (.ifCond .ne 5, 3) := by decide +kernel
theorem dX8_kind_16 : decode cX8_kind 16 = .ok (.iconst (-1), 1) := by decide +kernel
theorem dX8_kind_17 : decode cX8_kind 17 = .ok (.ireturn, 1) := by decide +kernel
theorem dX8_kind_18 : decode cX8_kind 18 = .ok (.aload_n 0, 1) := by decide +kernel
theorem dX8_kind_19 : decode cX8_kind 19 = .ok (.getfield 29, 3) := by decide +kernel
theorem dX8_kind_22 : decode cX8_kind 22 = .ok (.iload_n 1, 1) := by decide +kernel
theorem dX8_kind_23 : decode cX8_kind 23 = .ok (.iaload, 1) := by decide +kernel
theorem dX8_kind_24 : decode cX8_kind 24 = .ok (.iload_n 2, 1) := by decide +kernel
theorem dX8_kind_25 : decode cX8_kind 25 = .ok (.invokestatic 105, 3) := by decide +kernel
theorem dX8_kind_28 : decode cX8_kind 28 = .ok (.ifCond .eq 5, 3) := by decide +kernel
theorem dX8_kind_31 : decode cX8_kind 31 = .ok (.iconst 1, 1) := by decide +kernel
theorem dX8_kind_32 : decode cX8_kind 32 = .ok (.ireturn, 1) := by decide +kernel
theorem dX8_kind_33 : decode cX8_kind 33 = .ok (.iload_n 2, 1) := by decide +kernel
theorem dX8_kind_34 : decode cX8_kind 34 = .ok (.aload_n 0, 1) := by decide +kernel
theorem dX8_kind_35 : decode cX8_kind 35 = .ok (.getfield 20, 3) := by decide +kernel
theorem dX8_kind_38 : decode cX8_kind 38 = .ok (.iload_n 1, 1) := by decide +kernel
theorem dX8_kind_39 : decode cX8_kind 39 = .ok (.iaload, 1) := by decide +kernel
theorem dX8_kind_40 : decode cX8_kind 40 = .ok (.if_icmp .lt 5, 3) := by decide +kernel
theorem dX8_kind_43 : decode cX8_kind 43 = .ok (.iconst 2, 1) := by decide +kernel
theorem dX8_kind_44 : decode cX8_kind 44 = .ok (.ireturn, 1) := by decide +kernel
theorem dX8_kind_45 : decode cX8_kind 45 = .ok (.aload_n 0, 1) := by decide +kernel
theorem dX8_kind_46 : decode cX8_kind 46 = .ok (.getfield 23, 3) := by decide +kernel
theorem dX8_kind_49 : decode cX8_kind 49 = .ok (.iload_n 1, 1) := by decide +kernel
theorem dX8_kind_50 : decode cX8_kind 50 = .ok (.iaload, 1) := by decide +kernel
theorem dX8_kind_51 : decode cX8_kind 51 = .ok (.aload_n 0, 1) := by decide +kernel
theorem dX8_kind_52 : decode cX8_kind 52 = .ok (.getfield 7, 3) := by decide +kernel
theorem dX8_kind_55 : decode cX8_kind 55 = .ok (.iload_n 2, 1) := by decide +kernel
theorem dX8_kind_56 : decode cX8_kind 56 = .ok (.iaload, 1) := by decide +kernel
theorem dX8_kind_57 : decode cX8_kind 57 = .ok (.invokestatic 105, 3) := by decide +kernel
theorem dX8_kind_60 : decode cX8_kind 60 = .ok (.ifCond .ne 7, 3) := by decide +kernel
theorem dX8_kind_63 : decode cX8_kind 63 = .ok (.iconst 3, 1) := by decide +kernel
theorem dX8_kind_64 : decode cX8_kind 64 = .ok (.goto 26, 3) := by decide +kernel
theorem dX8_kind_67 : decode cX8_kind 67 = .ok (.aload_n 0, 1) := by decide +kernel
theorem dX8_kind_68 : decode cX8_kind 68 = .ok (.getfield 26, 3) := by decide +kernel
theorem dX8_kind_71 : decode cX8_kind 71 = .ok (.iload_n 1, 1) := by decide +kernel
theorem dX8_kind_72 : decode cX8_kind 72 = .ok (.iaload, 1) := by decide +kernel
theorem dX8_kind_73 : decode cX8_kind 73 = .ok (.aload_n 0, 1) := by decide +kernel
theorem dX8_kind_74 : decode cX8_kind 74 = .ok (.getfield 13, 3) := by decide +kernel
theorem dX8_kind_77 : decode cX8_kind 77 = .ok (.iload_n 2, 1) := by decide +kernel
theorem dX8_kind_78 : decode cX8_kind 78 = .ok (.iaload, 1) := by decide +kernel
theorem dX8_kind_79 : decode cX8_kind 79 = .ok (.invokestatic 105, 3) := by decide +kernel
theorem dX8_kind_82 : decode cX8_kind 82 = .ok (.ifCond .eq 7, 3) := by decide +kernel
theorem dX8_kind_85 : decode cX8_kind 85 = .ok (.iconst 4, 1) := by decide +kernel
theorem dX8_kind_86 : decode cX8_kind 86 = .ok (.goto 4, 3) := by decide +kernel
theorem dX8_kind_89 : decode cX8_kind 89 = .ok (.iconst 0, 1) := by decide +kernel
theorem dX8_kind_90 : decode cX8_kind 90 = .ok (.ireturn, 1) := by decide +kernel
set_option maxRecDepth 20000 in
theorem ggX8_adds_X8_isPlan : GoodIn wsX8_adds wsX8_isPlan := goodIn_r _ [6, 7, 8, 9, 5, 10, 24, 25, 26, 27, 28, 29, 30, 31, 32, 33, 34, 35, 36, 37, 38, 39, 40, 41, 42, 43, 44, 45, 46, 47, 48, 49, 50, 51] (by decide +kernel) (by decide +kernel)
set_option maxRecDepth 20000 in
theorem gX8_adds_X8_isPlan : GoodIn wsX8_adds (wsV RX8 125 RX8 yX8_isPlan wsX8_isPlan) := goodIn_app (goodIn_of _ (by decide +kernel)) ggX8_adds_X8_isPlan
set_option maxRecDepth 20000 in
theorem ggX8_adds_X8_isCall : GoodIn wsX8_adds wsX8_isCall := goodIn_r _ [14, 15, 8, 9, 5, 10, 24, 25, 26, 27, 28, 29, 30, 31, 32, 33, 34, 35, 36, 37, 38, 39, 40, 41, 42, 43, 44, 45, 46, 47, 48, 49, 50, 51] (by decide +kernel) (by decide +kernel)
set_option maxRecDepth 20000 in
theorem gX8_adds_X8_isCall : GoodIn wsX8_adds (wsV RX8 85 RX8 yX8_isCall wsX8_isCall) := goodIn_app (goodIn_of _ (by decide +kernel)) ggX8_adds_X8_isCall
set_option maxRecDepth 20000 in
theorem ggX8_adds_X8_isPlain : GoodIn wsX8_adds wsX8_isPlain := goodIn_r _ [19, 20, 21, 22, 5, 23, 24, 25, 26, 27, 28, 29, 30, 31, 32, 33, 34, 35, 36, 37, 38, 39, 40, 41, 42, 43, 44, 45, 46, 47, 48, 49, 50, 51] (by decide +kernel) (by decide +kernel)
set_option maxRecDepth 20000 in
theorem gX8_adds_X8_isPlain : GoodIn wsX8_adds (wsV RX8 128 RX8 yX8_isPlain wsX8_isPlain) := goodIn_app (goodIn_of _ (by decide +kernel)) ggX8_adds_X8_isPlain
theorem dX8_adds_0 : decode cX8_adds 0 = .ok (.aload_n 0, 1) := by decide +kernel
theorem dX8_adds_1 : decode cX8_adds 1 = .ok (.iload_n 1, 1) := by decide +kernel
theorem dX8_adds_2 : decode cX8_adds 2 = .ok (.invokevirtual 125, 3) := by decide +kernel
theorem dX8_adds_5 : decode cX8_adds 5 = .ok (.ifCond .eq 11, 3) := by decide +kernel
theorem dX8_adds_8 : decode cX8_adds 8 = .ok (.aload_n 0, 1) := by decide +kernel
theorem dX8_adds_9 : decode cX8_adds 9 = .ok (.iload_n 2, 1) := by decide +kernel
theorem dX8_adds_10 : decode cX8_adds 10 = .ok (.invokevirtual 85, 3) := by decide +kernel
theorem dX8_adds_13 : decode cX8_adds 13 = .ok (.ifCond .ne 5, 3) := by decide +kernel
theorem dX8_adds_16 : decode cX8_adds 16 = .ok (.iconst (-1), 1) := by decide +kernel
theorem dX8_adds_17 : decode cX8_adds 17 = .ok (.ireturn, 1) := by decide +kernel
theorem dX8_adds_18 : decode cX8_adds 18 = .ok (.aload_n 0, 1) := by decide +kernel
theorem dX8_adds_19 : decode cX8_adds 19 = .ok (.iload_n 1, 1) := by decide +kernel
theorem dX8_adds_20 : decode cX8_adds 20 = .ok (.iload_n 2, 1) := by decide +kernel
theorem dX8_adds_21 : decode cX8_adds 21 = .ok (.invokevirtual 128, 3) := by decide +kernel
theorem dX8_adds_24 : decode cX8_adds 24 = .ok (.ifCond .eq 17, 3) := by decide +kernel
theorem dX8_adds_27 : decode cX8_adds 27 = .ok (.aload_n 0, 1) := by decide +kernel
theorem dX8_adds_28 : decode cX8_adds 28 = .ok (.getfield 38, 3) := by decide +kernel
theorem dX8_adds_31 : decode cX8_adds 31 = .ok (.bipush 24, 2) := by decide +kernel
theorem dX8_adds_33 : decode cX8_adds 33 = .ok (.iload_n 1, 1) := by decide +kernel
theorem dX8_adds_34 : decode cX8_adds 34 = .ok (.imul, 1) := by decide +kernel
theorem dX8_adds_35 : decode cX8_adds 35 = .ok (.iload_n 2, 1) := by decide +kernel
theorem dX8_adds_36 : decode cX8_adds 36 = .ok (.iadd, 1) := by decide +kernel
theorem dX8_adds_37 : decode cX8_adds 37 = .ok (.iaload, 1) := by decide +kernel
theorem dX8_adds_38 : decode cX8_adds 38 = .ok (.goto 5, 3) := by decide +kernel
theorem dX8_adds_41 : decode cX8_adds 41 = .ok (.bipush (-9), 2) := by decide +kernel
theorem dX8_adds_43 : decode cX8_adds 43 = .ok (.ireturn, 1) := by decide +kernel
set_option maxRecDepth 20000 in
theorem ggX8_ways_X8_isPlan : GoodIn wsX8_ways wsX8_isPlan := goodIn_r _ [6, 7, 8, 9, 5, 10, 14, 15, 16, 17, 18, 19, 20, 21, 22, 23, 24, 25, 26, 27, 28, 29, 30, 31, 32, 33, 34, 35, 36, 37, 38, 39, 40, 41] (by decide +kernel) (by decide +kernel)
set_option maxRecDepth 20000 in
theorem gX8_ways_X8_isPlan : GoodIn wsX8_ways (wsV RX8 125 RX8 yX8_isPlan wsX8_isPlan) := goodIn_app (goodIn_of _ (by decide +kernel)) ggX8_ways_X8_isPlan
set_option maxRecDepth 20000 in
theorem ggX8_ways_X8_isRoutine : GoodIn wsX8_ways wsX8_isRoutine := goodIn_r _ [13, 8, 9, 5, 10] (by decide +kernel) (by decide +kernel)
set_option maxRecDepth 20000 in
theorem gX8_ways_X8_isRoutine : GoodIn wsX8_ways (va_wsS RX8 81 yX8_isRoutine wsX8_isRoutine) := goodIn_app (goodIn_of _ (by decide +kernel)) ggX8_ways_X8_isRoutine
theorem dX8_ways_0 : decode cX8_ways 0 = .ok (.aload_n 0, 1) := by decide +kernel
theorem dX8_ways_1 : decode cX8_ways 1 = .ok (.iload_n 1, 1) := by decide +kernel
theorem dX8_ways_2 : decode cX8_ways 2 = .ok (.invokevirtual 125, 3) := by decide +kernel
theorem dX8_ways_5 : decode cX8_ways 5 = .ok (.ifCond .eq 24, 3) := by decide +kernel
theorem dX8_ways_8 : decode cX8_ways 8 = .ok (.iload_n 2, 1) := by decide +kernel
theorem dX8_ways_9 : decode cX8_ways 9 = .ok (.invokestatic 81, 3) := by decide +kernel
theorem dX8_ways_12 : decode cX8_ways 12 = .ok (.ifCond .eq 17, 3) := by decide +kernel
theorem dX8_ways_15 : decode cX8_ways 15 = .ok (.aload_n 0, 1) := by decide +kernel
theorem dX8_ways_16 : decode cX8_ways 16 = .ok (.getfield 35, 3) := by decide +kernel
theorem dX8_ways_19 : decode cX8_ways 19 = .ok (.bipush 10, 2) := by decide +kernel
theorem dX8_ways_21 : decode cX8_ways 21 = .ok (.iload_n 1, 1) := by decide +kernel
theorem dX8_ways_22 : decode cX8_ways 22 = .ok (.imul, 1) := by decide +kernel
theorem dX8_ways_23 : decode cX8_ways 23 = .ok (.iload_n 2, 1) := by decide +kernel
theorem dX8_ways_24 : decode cX8_ways 24 = .ok (.iadd, 1) := by decide +kernel
theorem dX8_ways_25 : decode cX8_ways 25 = .ok (.iaload, 1) := by decide +kernel
theorem dX8_ways_26 : decode cX8_ways 26 = .ok (.goto 4, 3) := by decide +kernel
theorem dX8_ways_29 : decode cX8_ways 29 = .ok (.iconst (-1), 1) := by decide +kernel
theorem dX8_ways_30 : decode cX8_ways 30 = .ok (.ireturn, 1) := by decide +kernel
set_option maxRecDepth 20000 in
theorem ggX8_ofPlan_X8_isPlan : GoodIn wsX8_ofPlan wsX8_isPlan := goodIn_r _ [9, 10, 11, 12, 8, 13, 14, 15, 16, 17, 18, 19, 20, 21, 22, 23, 24, 25, 26, 27, 28, 29, 30, 31, 32, 33, 34, 35, 36, 37, 38, 39, 40, 41] (by decide +kernel) (by decide +kernel)
set_option maxRecDepth 20000 in
theorem gX8_ofPlan_X8_isPlan : GoodIn wsX8_ofPlan (wsV RX8 125 RX8 yX8_isPlan wsX8_isPlan) := goodIn_app (goodIn_of _ (by decide +kernel)) ggX8_ofPlan_X8_isPlan
theorem dX8_ofPlan_0 : decode cX8_ofPlan 0 = .ok (.aload_n 0, 1) := by decide +kernel
theorem dX8_ofPlan_1 : decode cX8_ofPlan 1 = .ok (.iload_n 1, 1) := by decide +kernel
theorem dX8_ofPlan_2 : decode cX8_ofPlan 2 = .ok (.invokevirtual 125, 3) := by decide +kernel
theorem dX8_ofPlan_5 : decode cX8_ofPlan 5 = .ok (.ifCond .ne 5, 3) := by decide +kernel
theorem dX8_ofPlan_8 : decode cX8_ofPlan 8 = .ok (.iconst (-1), 1) := by decide +kernel
theorem dX8_ofPlan_9 : decode cX8_ofPlan 9 = .ok (.ireturn, 1) := by decide +kernel
theorem dX8_ofPlan_10 : decode cX8_ofPlan 10 = .ok (.iload_n 2, 1) := by decide +kernel
theorem dX8_ofPlan_11 : decode cX8_ofPlan 11 = .ok (.tableswitch 57 0 3 #[29, 36, 43, 50], 29) := by decide +kernel
theorem dX8_ofPlan_40 : decode cX8_ofPlan 40 = .ok (.aload_n 0, 1) := by decide +kernel
theorem dX8_ofPlan_41 : decode cX8_ofPlan 41 = .ok (.getfield 23, 3) := by decide +kernel
theorem dX8_ofPlan_44 : decode cX8_ofPlan 44 = .ok (.iload_n 1, 1) := by decide +kernel
theorem dX8_ofPlan_45 : decode cX8_ofPlan 45 = .ok (.iaload, 1) := by decide +kernel
theorem dX8_ofPlan_46 : decode cX8_ofPlan 46 = .ok (.ireturn, 1) := by decide +kernel
theorem dX8_ofPlan_47 : decode cX8_ofPlan 47 = .ok (.aload_n 0, 1) := by decide +kernel
theorem dX8_ofPlan_48 : decode cX8_ofPlan 48 = .ok (.getfield 26, 3) := by decide +kernel
theorem dX8_ofPlan_51 : decode cX8_ofPlan 51 = .ok (.iload_n 1, 1) := by decide +kernel
theorem dX8_ofPlan_52 : decode cX8_ofPlan 52 = .ok (.iaload, 1) := by decide +kernel
theorem dX8_ofPlan_53 : decode cX8_ofPlan 53 = .ok (.ireturn, 1) := by decide +kernel
theorem dX8_ofPlan_54 : decode cX8_ofPlan 54 = .ok (.aload_n 0, 1) := by decide +kernel
theorem dX8_ofPlan_55 : decode cX8_ofPlan 55 = .ok (.getfield 29, 3) := by decide +kernel
theorem dX8_ofPlan_58 : decode cX8_ofPlan 58 = .ok (.iload_n 1, 1) := by decide +kernel
theorem dX8_ofPlan_59 : decode cX8_ofPlan 59 = .ok (.iaload, 1) := by decide +kernel
theorem dX8_ofPlan_60 : decode cX8_ofPlan 60 = .ok (.ireturn, 1) := by decide +kernel
theorem dX8_ofPlan_61 : decode cX8_ofPlan 61 = .ok (.aload_n 0, 1) := by decide +kernel
theorem dX8_ofPlan_62 : decode cX8_ofPlan 62 = .ok (.getfield 32, 3) := by decide +kernel
theorem dX8_ofPlan_65 : decode cX8_ofPlan 65 = .ok (.iload_n 1, 1) := by decide +kernel
theorem dX8_ofPlan_66 : decode cX8_ofPlan 66 = .ok (.iaload, 1) := by decide +kernel
theorem dX8_ofPlan_67 : decode cX8_ofPlan 67 = .ok (.ireturn, 1) := by decide +kernel
theorem dX8_ofPlan_68 : decode cX8_ofPlan 68 = .ok (.bipush (-2), 2) := by decide +kernel
theorem dX8_ofPlan_70 : decode cX8_ofPlan 70 = .ok (.ireturn, 1) := by decide +kernel
set_option maxRecDepth 20000 in
theorem ggX8_lastTo_X8_isPlain : GoodIn wsX8_lastTo wsX8_isPlain := goodIn_r _ [10, 11, 12, 13, 9, 14, 18, 19, 20, 21, 22, 23, 24, 25, 26, 27, 28, 29, 30, 31, 32, 33, 34, 35, 36, 37, 38, 39, 40, 41, 42, 43, 44, 45] (by decide +kernel) (by decide +kernel)
set_option maxRecDepth 20000 in
theorem gX8_lastTo_X8_isPlain : GoodIn wsX8_lastTo (wsV RX8 128 RX8 yX8_isPlain wsX8_isPlain) := goodIn_app (goodIn_of _ (by decide +kernel)) ggX8_lastTo_X8_isPlain
set_option maxRecDepth 20000 in
theorem ggX8_lastTo_X8_within : GoodIn wsX8_lastTo wsX8_within := goodIn_r _ [17] (by decide +kernel) (by decide +kernel)
set_option maxRecDepth 20000 in
theorem gX8_lastTo_X8_within : GoodIn wsX8_lastTo (va_wsS RX8 74 yX8_within wsX8_within) := goodIn_app (goodIn_of _ (by decide +kernel)) ggX8_lastTo_X8_within
theorem dX8_lastTo_0 : decode cX8_lastTo 0 = .ok (.iconst 0, 1) := by decide +kernel
theorem dX8_lastTo_1 : decode cX8_lastTo 1 = .ok (.istore 4, 2) := by decide +kernel
theorem dX8_lastTo_3 : decode cX8_lastTo 3 = .ok (.iload 4, 2) := by decide +kernel
theorem dX8_lastTo_5 : decode cX8_lastTo 5 = .ok (.aload_n 0, 1) := by decide +kernel
theorem dX8_lastTo_6 : decode cX8_lastTo 6 = .ok (.getfield 20, 3) := by decide +kernel
theorem dX8_lastTo_9 : decode cX8_lastTo 9 = .ok (.iload_n 1, 1) := by decide +kernel
theorem dX8_lastTo_10 : decode cX8_lastTo 10 = .ok (.iaload, 1) := by decide +kernel
theorem dX8_lastTo_11 : decode cX8_lastTo 11 = .ok (.if_icmp .ge 77, 3) := by decide +kernel
theorem dX8_lastTo_14 : decode cX8_lastTo 14 = .ok (.iload_n 3, 1) := by decide +kernel
theorem dX8_lastTo_15 : decode cX8_lastTo 15 = .ok (.aload_n 0, 1) := by decide +kernel
theorem dX8_lastTo_16 : decode cX8_lastTo 16 = .ok (.getfield 38, 3) := by decide +kernel
theorem dX8_lastTo_19 : decode cX8_lastTo 19 = .ok (.bipush 24, 2) := by decide +kernel
theorem dX8_lastTo_21 : decode cX8_lastTo 21 = .ok (.iload_n 1, 1) := by decide +kernel
theorem dX8_lastTo_22 : decode cX8_lastTo 22 = .ok (.imul, 1) := by decide +kernel
theorem dX8_lastTo_23 : decode cX8_lastTo 23 = .ok (.iload 4, 2) := by decide +kernel
theorem dX8_lastTo_25 : decode cX8_lastTo 25 = .ok (.iadd, 1) := by decide +kernel
theorem dX8_lastTo_26 : decode cX8_lastTo 26 = .ok (.iaload, 1) := by decide +kernel
theorem dX8_lastTo_27 : decode cX8_lastTo 27 = .ok (.isub, 1) := by decide +kernel
theorem dX8_lastTo_28 : decode cX8_lastTo 28 = .ok (.istore 5, 2) := by decide +kernel
theorem dX8_lastTo_30 : decode cX8_lastTo 30 = .ok (.aload_n 0, 1) := by decide +kernel
theorem dX8_lastTo_31 : decode cX8_lastTo 31 = .ok (.iload_n 1, 1) := by decide +kernel
theorem dX8_lastTo_32 : decode cX8_lastTo 32 = .ok (.iload 4, 2) := by decide +kernel
theorem dX8_lastTo_34 : decode cX8_lastTo 34 = .ok (.invokevirtual 128, 3) := by decide +kernel
theorem dX8_lastTo_37 : decode cX8_lastTo 37 = .ok (.ifCond .eq 45, 3) := by decide +kernel
theorem dX8_lastTo_40 : decode cX8_lastTo 40 = .ok (.aload_n 0, 1) := by decide +kernel
theorem dX8_lastTo_41 : decode cX8_lastTo 41 = .ok (.getfield 13, 3) := by decide +kernel
theorem dX8_lastTo_44 : decode cX8_lastTo 44 = .ok (.iload 4, 2) := by decide +kernel
theorem dX8_lastTo_46 : decode cX8_lastTo 46 = .ok (.iaload, 1) := by decide +kernel
theorem dX8_lastTo_47 : decode cX8_lastTo 47 = .ok (.iload_n 2, 1) := by decide +kernel
theorem dX8_lastTo_48 : decode cX8_lastTo 48 = .ok (.if_icmp .ne 34, 3) := by decide +kernel
theorem dX8_lastTo_51 : decode cX8_lastTo 51 = .ok (.iload 5, 2) := by decide +kernel
theorem dX8_lastTo_53 : decode cX8_lastTo 53 = .ok (.iconst 0, 1) := by decide +kernel
theorem dX8_lastTo_54 : decode cX8_lastTo 54 = .ok (.aload_n 0, 1) := by decide +kernel
theorem dX8_lastTo_55 : decode cX8_lastTo 55 = .ok (.getfield 35, 3) := by decide +kernel
theorem dX8_lastTo_58 : decode cX8_lastTo 58 = .ok (.bipush 10, 2) := by decide +kernel
theorem dX8_lastTo_60 : decode cX8_lastTo 60 = .ok (.iload_n 1, 1) := by decide +kernel
theorem dX8_lastTo_61 : decode cX8_lastTo 61 = .ok (.imul, 1) := by decide +kernel
theorem dX8_lastTo_62 : decode cX8_lastTo 62 = .ok (.aload_n 0, 1) := by decide +kernel
theorem dX8_lastTo_63 : decode cX8_lastTo 63 = .ok (.getfield 7, 3) := by decide +kernel
theorem dX8_lastTo_66 : decode cX8_lastTo 66 = .ok (.iload 4, 2) := by decide +kernel
theorem dX8_lastTo_68 : decode cX8_lastTo 68 = .ok (.iaload, 1) := by decide +kernel
theorem dX8_lastTo_69 : decode cX8_lastTo 69 = .ok (.iadd, 1) := by decide +kernel
theorem dX8_lastTo_70 : decode cX8_lastTo 70 = .ok (.iaload, 1) := by decide +kernel
theorem dX8_lastTo_71 : decode cX8_lastTo 71 = .ok (.iconst 1, 1) := by decide +kernel
theorem dX8_lastTo_72 : decode cX8_lastTo 72 = .ok (.isub, 1) := by decide +kernel
theorem dX8_lastTo_73 : decode cX8_lastTo 73 = .ok (.invokestatic 74, 3) := by decide +kernel
theorem dX8_lastTo_76 : decode cX8_lastTo 76 = .ok (.ifCond .eq 6, 3) := by decide +kernel
theorem dX8_lastTo_79 : decode cX8_lastTo 79 = .ok (.iload 4, 2) := by decide +kernel
theorem dX8_lastTo_81 : decode cX8_lastTo 81 = .ok (.ireturn, 1) := by decide +kernel
theorem dX8_lastTo_82 : decode cX8_lastTo 82 = .ok (.iinc 4 1, 3) := by decide +kernel
theorem dX8_lastTo_85 : decode cX8_lastTo 85 = .ok (.goto (-82), 3) := by decide +kernel
theorem dX8_lastTo_88 : decode cX8_lastTo 88 = .ok (.bipush (-9), 2) := by decide +kernel
theorem dX8_lastTo_90 : decode cX8_lastTo 90 = .ok (.ireturn, 1) := by decide +kernel
set_option maxRecDepth 20000 in
theorem ggX8_decodes_X8_lastTo : GoodIn wsX8_decodes wsX8_lastTo := goodIn_r _ [9, 10, 3, 11, 12, 4, 13, 14, 15, 8, 16, 17, 18, 19, 20, 21, 22, 23, 24, 25, 26, 27, 28, 29, 30, 31, 32, 33, 34, 35, 36, 37, 38, 39, 40, 41, 42, 43, 44, 45, 46, 47, 48, 49, 50, 51] (by decide +kernel) (by decide +kernel)
set_option maxRecDepth 20000 in
theorem gX8_decodes_X8_lastTo : GoodIn wsX8_decodes (wsV RX8 134 RX8 yX8_lastTo wsX8_lastTo) := goodIn_app (goodIn_of _ (by decide +kernel)) ggX8_decodes_X8_lastTo
theorem dX8_decodes_0 : decode cX8_decodes 0 = .ok (.aload_n 0, 1) := by decide +kernel
theorem dX8_decodes_1 : decode cX8_decodes 1 = .ok (.iconst 0, 1) := by decide +kernel
theorem dX8_decodes_2 : decode cX8_decodes 2 = .ok (.putfield 131, 3) := by decide +kernel
theorem dX8_decodes_5 : decode cX8_decodes 5 = .ok (.iload_n 3, 1) := by decide +kernel
theorem dX8_decodes_6 : decode cX8_decodes 6 = .ok (.istore 5, 2) := by decide +kernel
theorem dX8_decodes_8 : decode cX8_decodes 8 = .ok (.iload 4, 2) := by decide +kernel
theorem dX8_decodes_10 : decode cX8_decodes 10 = .ok (.istore 6, 2) := by decide +kernel
theorem dX8_decodes_12 : decode cX8_decodes 12 = .ok (.iload 5, 2) := by decide +kernel
theorem dX8_decodes_14 : decode cX8_decodes 14 = .ok (.iload_n 2, 1) := by decide +kernel
theorem dX8_decodes_15 : decode cX8_decodes 15 = .ok (.if_icmp .eq 73, 3) := by decide +kernel
theorem dX8_decodes_18 : decode cX8_decodes 18 = .ok (.aload_n 0, 1) := by decide +kernel
theorem dX8_decodes_19 : decode cX8_decodes 19 = .ok (.iload_n 1, 1) := by decide +kernel
theorem dX8_decodes_20 : decode cX8_decodes 20 = .ok (.iload 5, 2) := by decide +kernel
theorem dX8_decodes_22 : decode cX8_decodes 22 = .ok (.iload 6, 2) := by decide +kernel
theorem dX8_decodes_24 : decode cX8_decodes 24 = .ok (.invokevirtual 134, 3) := by decide +kernel
theorem dX8_decodes_27 : decode cX8_decodes 27 = .ok (.istore 7, 2) := by decide +kernel
theorem dX8_decodes_29 : decode cX8_decodes 29 = .ok (.iload 7, 2) := by decide +kernel
theorem dX8_decodes_31 : decode cX8_decodes 31 = .ok (.bipush (-9), 2) := by decide +kernel
theorem dX8_decodes_33 : decode cX8_decodes 33 = .ok (.if_icmp .ne 5, 3) := by decide +kernel
theorem dX8_decodes_36 : decode cX8_decodes 36 = .ok (.iconst 0, 1) := by decide +kernel
theorem dX8_decodes_37 : decode cX8_decodes 37 = .ok (.ireturn, 1) := by decide +kernel
theorem dX8_decodes_38 : decode cX8_decodes 38 = .ok (.aload_n 0, 1) := by decide +kernel
theorem dX8_decodes_39 : decode cX8_decodes 39 = .ok (.getfield 47, 3) := by decide +kernel
theorem dX8_decodes_42 : decode cX8_decodes 42 = .ok (.aload_n 0, 1) := by decide +kernel
theorem dX8_decodes_43 : decode cX8_decodes 43 = .ok (.getfield 131, 3) := by decide +kernel
theorem dX8_decodes_46 : decode cX8_decodes 46 = .ok (.iload 7, 2) := by decide +kernel
theorem dX8_decodes_48 : decode cX8_decodes 48 = .ok (.iastore, 1) := by decide +kernel
theorem dX8_decodes_49 : decode cX8_decodes 49 = .ok (.aload_n 0, 1) := by decide +kernel
theorem dX8_decodes_50 : decode cX8_decodes 50 = .ok (.dup, 1) := by decide +kernel
theorem dX8_decodes_51 : decode cX8_decodes 51 = .ok (.getfield 131, 3) := by decide +kernel
theorem dX8_decodes_54 : decode cX8_decodes 54 = .ok (.iconst 1, 1) := by decide +kernel
theorem dX8_decodes_55 : decode cX8_decodes 55 = .ok (.iadd, 1) := by decide +kernel
theorem dX8_decodes_56 : decode cX8_decodes 56 = .ok (.putfield 131, 3) := by decide +kernel
theorem dX8_decodes_59 : decode cX8_decodes 59 = .ok (.iload 6, 2) := by decide +kernel
theorem dX8_decodes_61 : decode cX8_decodes 61 = .ok (.aload_n 0, 1) := by decide +kernel
theorem dX8_decodes_62 : decode cX8_decodes 62 = .ok (.getfield 38, 3) := by decide +kernel
theorem dX8_decodes_65 : decode cX8_decodes 65 = .ok (.bipush 24, 2) := by decide +kernel
theorem dX8_decodes_67 : decode cX8_decodes 67 = .ok (.iload_n 1, 1) := by decide +kernel
theorem dX8_decodes_68 : decode cX8_decodes 68 = .ok (.imul, 1) := by decide +kernel
theorem dX8_decodes_69 : decode cX8_decodes 69 = .ok (.iload 7, 2) := by decide +kernel
theorem dX8_decodes_71 : decode cX8_decodes 71 = .ok (.iadd, 1) := by decide +kernel
theorem dX8_decodes_72 : decode cX8_decodes 72 = .ok (.iaload, 1) := by decide +kernel
theorem dX8_decodes_73 : decode cX8_decodes 73 = .ok (.isub, 1) := by decide +kernel
theorem dX8_decodes_74 : decode cX8_decodes 74 = .ok (.istore 6, 2) := by decide +kernel
theorem dX8_decodes_76 : decode cX8_decodes 76 = .ok (.aload_n 0, 1) := by decide +kernel
theorem dX8_decodes_77 : decode cX8_decodes 77 = .ok (.getfield 7, 3) := by decide +kernel
theorem dX8_decodes_80 : decode cX8_decodes 80 = .ok (.iload 7, 2) := by decide +kernel
theorem dX8_decodes_82 : decode cX8_decodes 82 = .ok (.iaload, 1) := by decide +kernel
theorem dX8_decodes_83 : decode cX8_decodes 83 = .ok (.istore 5, 2) := by decide +kernel
theorem dX8_decodes_85 : decode cX8_decodes 85 = .ok (.goto (-73), 3) := by decide +kernel
theorem dX8_decodes_88 : decode cX8_decodes 88 = .ok (.iload 6, 2) := by decide +kernel
theorem dX8_decodes_90 : decode cX8_decodes 90 = .ok (.ifCond .ne 7, 3) := by decide +kernel
theorem dX8_decodes_93 : decode cX8_decodes 93 = .ok (.iconst 1, 1) := by decide +kernel
theorem dX8_decodes_94 : decode cX8_decodes 94 = .ok (.goto 4, 3) := by decide +kernel
theorem dX8_decodes_97 : decode cX8_decodes 97 = .ok (.iconst 0, 1) := by decide +kernel
theorem dX8_decodes_98 : decode cX8_decodes 98 = .ok (.ireturn, 1) := by decide +kernel
set_option maxRecDepth 20000 in
theorem ggX8_decoded_X8_isPlan : GoodIn wsX8_decoded wsX8_isPlan := goodIn_r _ [8, 9, 10, 11, 7, 12, 37, 38, 39, 40, 41, 42, 43, 44, 45, 46, 47, 48, 49, 50, 51, 52, 53, 54, 55, 56, 57, 58, 59, 60, 61, 62, 63, 64] (by decide +kernel) (by decide +kernel)
set_option maxRecDepth 20000 in
theorem gX8_decoded_X8_isPlan : GoodIn wsX8_decoded (wsV RX8 125 RX8 yX8_isPlan wsX8_isPlan) := goodIn_app (goodIn_of _ (by decide +kernel)) ggX8_decoded_X8_isPlan
set_option maxRecDepth 20000 in
theorem ggX8_decoded_X8_isRoutine : GoodIn wsX8_decoded wsX8_isRoutine := goodIn_r _ [15, 10, 11, 7, 12] (by decide +kernel) (by decide +kernel)
set_option maxRecDepth 20000 in
theorem gX8_decoded_X8_isRoutine : GoodIn wsX8_decoded (va_wsS RX8 81 yX8_isRoutine wsX8_isRoutine) := goodIn_app (goodIn_of _ (by decide +kernel)) ggX8_decoded_X8_isRoutine
set_option maxRecDepth 20000 in
theorem ggX8_decoded_X8_within : GoodIn wsX8_decoded wsX8_within := goodIn_r _ [12] (by decide +kernel) (by decide +kernel)
set_option maxRecDepth 20000 in
theorem gX8_decoded_X8_within : GoodIn wsX8_decoded (va_wsS RX8 74 yX8_within wsX8_within) := goodIn_app (goodIn_of _ (by decide +kernel)) ggX8_decoded_X8_within
set_option maxRecDepth 20000 in
theorem ggX8_decoded_X8_decodes : GoodIn wsX8_decoded wsX8_decodes := goodIn_r _ [19, 2, 3, 20, 21, 22, 23, 24, 7, 25, 26, 27, 28, 29, 30, 31, 32, 33, 34, 35, 36, 10, 11, 12, 37, 38, 39, 40, 41, 42, 43, 44, 45, 46, 47, 48, 49, 50, 51, 52, 53, 54, 55, 56, 57, 58, 59, 60, 61, 62, 63, 64] (by decide +kernel) (by decide +kernel)
set_option maxRecDepth 20000 in
theorem gX8_decoded_X8_decodes : GoodIn wsX8_decoded (wsV RX8 139 RX8 yX8_decodes wsX8_decodes) := goodIn_app (goodIn_of _ (by decide +kernel)) ggX8_decoded_X8_decodes
theorem dX8_decoded_0 : decode cX8_decoded 0 = .ok (.aload_n 0, 1) := by decide +kernel
theorem dX8_decoded_1 : decode cX8_decoded 1 = .ok (.iload_n 1, 1) := by decide +kernel
theorem dX8_decoded_2 : decode cX8_decoded 2 = .ok (.invokevirtual 125, 3) := by decide +kernel
theorem dX8_decoded_5 : decode cX8_decoded 5 = .ok (.ifCond .eq 17, 3) := by decide +kernel
theorem dX8_decoded_8 : decode cX8_decoded 8 = .ok (.iload_n 2, 1) := by decide +kernel
theorem dX8_decoded_9 : decode cX8_decoded 9 = .ok (.invokestatic 81, 3) := by decide +kernel
theorem dX8_decoded_12 : decode cX8_decoded 12 = .ok (.ifCond .eq 10, 3) := by decide +kernel
theorem dX8_decoded_15 : decode cX8_decoded 15 = .ok (.iload_n 3, 1) := by decide +kernel
theorem dX8_decoded_16 : decode cX8_decoded 16 = .ok (.invokestatic 81, 3) := by decide +kernel
theorem dX8_decoded_19 : decode cX8_decoded 19 = .ok (.ifCond .ne 5, 3) := by decide +kernel
theorem dX8_decoded_22 : decode cX8_decoded 22 = .ok (.iconst (-1), 1) := by decide +kernel
theorem dX8_decoded_23 : decode cX8_decoded 23 = .ok (.ireturn, 1) := by decide +kernel
theorem dX8_decoded_24 : decode cX8_decoded 24 = .ok (.iload 4, 2) := by decide +kernel
theorem dX8_decoded_26 : decode cX8_decoded 26 = .ok (.iconst 0, 1) := by decide +kernel
theorem dX8_decoded_27 : decode cX8_decoded 27 = .ok (.ldc 138, 2) := by decide +kernel
theorem dX8_decoded_29 : decode cX8_decoded 29 = .ok (.invokestatic 74, 3) := by decide +kernel
theorem dX8_decoded_32 : decode cX8_decoded 32 = .ok (.ifCond .eq 9, 3) := by decide +kernel
theorem dX8_decoded_35 : decode cX8_decoded 35 = .ok (.iload 5, 2) := by decide +kernel
theorem dX8_decoded_37 : decode cX8_decoded 37 = .ok (.iconst (-1), 1) := by decide +kernel
theorem dX8_decoded_38 : decode cX8_decoded 38 = .ok (.if_icmp .ge 6, 3) := by decide +kernel
theorem dX8_decoded_41 : decode cX8_decoded 41 = .ok (.bipush (-2), 2) := by decide +kernel
theorem dX8_decoded_43 : decode cX8_decoded 43 = .ok (.ireturn, 1) := by decide +kernel
theorem dX8_decoded_44 : decode cX8_decoded 44 = .ok (.aload_n 0, 1) := by decide +kernel
theorem dX8_decoded_45 : decode cX8_decoded 45 = .ok (.iload_n 1, 1) := by decide +kernel
theorem dX8_decoded_46 : decode cX8_decoded 46 = .ok (.iload_n 2, 1) := by decide +kernel
theorem dX8_decoded_47 : decode cX8_decoded 47 = .ok (.iload_n 3, 1) := by decide +kernel
theorem dX8_decoded_48 : decode cX8_decoded 48 = .ok (.iload 4, 2) := by decide +kernel
theorem dX8_decoded_50 : decode cX8_decoded 50 = .ok (.invokevirtual 139, 3) := by decide +kernel
theorem dX8_decoded_53 : decode cX8_decoded 53 = .ok (.ifCond .ne 6, 3) := by decide +kernel
theorem dX8_decoded_56 : decode cX8_decoded 56 = .ok (.bipush (-9), 2) := by decide +kernel
theorem dX8_decoded_58 : decode cX8_decoded 58 = .ok (.ireturn, 1) := by decide +kernel
theorem dX8_decoded_59 : decode cX8_decoded 59 = .ok (.iload 5, 2) := by decide +kernel
theorem dX8_decoded_61 : decode cX8_decoded 61 = .ok (.iconst (-1), 1) := by decide +kernel
theorem dX8_decoded_62 : decode cX8_decoded 62 = .ok (.if_icmp .ne 10, 3) := by decide +kernel
theorem dX8_decoded_65 : decode cX8_decoded 65 = .ok (.aload_n 0, 1) := by decide +kernel
theorem dX8_decoded_66 : decode cX8_decoded 66 = .ok (.getfield 131, 3) := by decide +kernel
theorem dX8_decoded_69 : decode cX8_decoded 69 = .ok (.goto 31, 3) := by decide +kernel
theorem dX8_decoded_72 : decode cX8_decoded 72 = .ok (.iload 5, 2) := by decide +kernel
theorem dX8_decoded_74 : decode cX8_decoded 74 = .ok (.aload_n 0, 1) := by decide +kernel
theorem dX8_decoded_75 : decode cX8_decoded 75 = .ok (.getfield 131, 3) := by decide +kernel
theorem dX8_decoded_78 : decode cX8_decoded 78 = .ok (.if_icmp .ge 20, 3) := by decide +kernel
theorem dX8_decoded_81 : decode cX8_decoded 81 = .ok (.aload_n 0, 1) := by decide +kernel
theorem dX8_decoded_82 : decode cX8_decoded 82 = .ok (.getfield 47, 3) := by decide +kernel
theorem dX8_decoded_85 : decode cX8_decoded 85 = .ok (.aload_n 0, 1) := by decide +kernel
theorem dX8_decoded_86 : decode cX8_decoded 86 = .ok (.getfield 131, 3) := by decide +kernel
theorem dX8_decoded_89 : decode cX8_decoded 89 = .ok (.iconst 1, 1) := by decide +kernel
theorem dX8_decoded_90 : decode cX8_decoded 90 = .ok (.isub, 1) := by decide +kernel
theorem dX8_decoded_91 : decode cX8_decoded 91 = .ok (.iload 5, 2) := by decide +kernel
theorem dX8_decoded_93 : decode cX8_decoded 93 = .ok (.isub, 1) := by decide +kernel
theorem dX8_decoded_94 : decode cX8_decoded 94 = .ok (.iaload, 1) := by decide +kernel
theorem dX8_decoded_95 : decode cX8_decoded 95 = .ok (.goto 5, 3) := by decide +kernel
theorem dX8_decoded_98 : decode cX8_decoded 98 = .ok (.bipush (-9), 2) := by decide +kernel
theorem dX8_decoded_100 : decode cX8_decoded 100 = .ok (.ireturn, 1) := by decide +kernel
theorem dX8_here_0 : decode cX8_here 0 = .ok (.aload_n 0, 1) := by decide +kernel
theorem dX8_here_1 : decode cX8_here 1 = .ok (.getfield 143, 3) := by decide +kernel
theorem dX8_here_4 : decode cX8_here 4 = .ok (.ifCond .ne 7, 3) := by decide +kernel
theorem dX8_here_7 : decode cX8_here 7 = .ok (.iconst 0, 1) := by decide +kernel
theorem dX8_here_8 : decode cX8_here 8 = .ok (.goto 19, 3) := by decide +kernel
theorem dX8_here_11 : decode cX8_here 11 = .ok (.aload_n 0, 1) := by decide +kernel
theorem dX8_here_12 : decode cX8_here 12 = .ok (.getfield 13, 3) := by decide +kernel
theorem dX8_here_15 : decode cX8_here 15 = .ok (.aload_n 0, 1) := by decide +kernel
theorem dX8_here_16 : decode cX8_here 16 = .ok (.getfield 50, 3) := by decide +kernel
theorem dX8_here_19 : decode cX8_here 19 = .ok (.aload_n 0, 1) := by decide +kernel
theorem dX8_here_20 : decode cX8_here 20 = .ok (.getfield 143, 3) := by decide +kernel
theorem dX8_here_23 : decode cX8_here 23 = .ok (.iconst 1, 1) := by decide +kernel
theorem dX8_here_24 : decode cX8_here 24 = .ok (.isub, 1) := by decide +kernel
theorem dX8_here_25 : decode cX8_here 25 = .ok (.iaload, 1) := by decide +kernel
theorem dX8_here_26 : decode cX8_here 26 = .ok (.iaload, 1) := by decide +kernel
theorem dX8_here_27 : decode cX8_here 27 = .ok (.ireturn, 1) := by decide +kernel
set_option maxRecDepth 20000 in
theorem ggX8_call_X8_isCall : GoodIn wsX8_call wsX8_isCall := goodIn_r _ [8, 9, 10, 11, 7, 12, 18, 19, 20, 21, 22, 23, 24, 25, 26, 27, 28, 29, 30, 31, 32, 33, 34, 35, 36, 37, 38, 39, 40, 41, 42, 43, 44, 45] (by decide +kernel) (by decide +kernel)
set_option maxRecDepth 20000 in
theorem gX8_call_X8_isCall : GoodIn wsX8_call (wsV RX8 85 RX8 yX8_isCall wsX8_isCall) := goodIn_app (goodIn_of _ (by decide +kernel)) ggX8_call_X8_isCall
set_option maxRecDepth 20000 in
theorem ggX8_call_X8_here : GoodIn wsX8_call wsX8_here := goodIn_r _ [16, 2, 17, 3, 18, 19, 20, 21, 22, 23, 24, 25, 26, 27, 28, 29, 30, 31, 32, 33, 34, 35, 36, 37, 38, 39, 40, 41, 42, 43, 44, 45] (by decide +kernel) (by decide +kernel)
set_option maxRecDepth 20000 in
theorem gX8_call_X8_here : GoodIn wsX8_call (wsV RX8 146 RX8 yX8_here wsX8_here) := goodIn_app (goodIn_of _ (by decide +kernel)) ggX8_call_X8_here
theorem dX8_call_0 : decode cX8_call 0 = .ok (.aload_n 0, 1) := by decide +kernel
theorem dX8_call_1 : decode cX8_call 1 = .ok (.iload_n 1, 1) := by decide +kernel
theorem dX8_call_2 : decode cX8_call 2 = .ok (.invokevirtual 85, 3) := by decide +kernel
theorem dX8_call_5 : decode cX8_call 5 = .ok (.ifCond .ne 5, 3) := by decide +kernel
theorem dX8_call_8 : decode cX8_call 8 = .ok (.iconst (-1), 1) := by decide +kernel
theorem dX8_call_9 : decode cX8_call 9 = .ok (.ireturn, 1) := by decide +kernel
theorem dX8_call_10 : decode cX8_call 10 = .ok (.aload_n 0, 1) := by decide +kernel
theorem dX8_call_11 : decode cX8_call 11 = .ok (.getfield 7, 3) := by decide +kernel
theorem dX8_call_14 : decode cX8_call 14 = .ok (.iload_n 1, 1) := by decide +kernel
theorem dX8_call_15 : decode cX8_call 15 = .ok (.iaload, 1) := by decide +kernel
theorem dX8_call_16 : decode cX8_call 16 = .ok (.aload_n 0, 1) := by decide +kernel
theorem dX8_call_17 : decode cX8_call 17 = .ok (.invokevirtual 146, 3) := by decide +kernel
theorem dX8_call_20 : decode cX8_call 20 = .ok (.if_icmp .eq 6, 3) := by decide +kernel
theorem dX8_call_23 : decode cX8_call 23 = .ok (.bipush (-3), 2) := by decide +kernel
theorem dX8_call_25 : decode cX8_call 25 = .ok (.ireturn, 1) := by decide +kernel
theorem dX8_call_26 : decode cX8_call 26 = .ok (.aload_n 0, 1) := by decide +kernel
theorem dX8_call_27 : decode cX8_call 27 = .ok (.getfield 143, 3) := by decide +kernel
theorem dX8_call_30 : decode cX8_call 30 = .ok (.bipush 30, 2) := by decide +kernel
theorem dX8_call_32 : decode cX8_call 32 = .ok (.if_icmp .ne 6, 3) := by decide +kernel
theorem dX8_call_35 : decode cX8_call 35 = .ok (.bipush (-4), 2) := by decide +kernel
theorem dX8_call_37 : decode cX8_call 37 = .ok (.ireturn, 1) := by decide +kernel
theorem dX8_call_38 : decode cX8_call 38 = .ok (.aload_n 0, 1) := by decide +kernel
theorem dX8_call_39 : decode cX8_call 39 = .ok (.getfield 50, 3) := by decide +kernel
theorem dX8_call_42 : decode cX8_call 42 = .ok (.aload_n 0, 1) := by decide +kernel
theorem dX8_call_43 : decode cX8_call 43 = .ok (.getfield 143, 3) := by decide +kernel
theorem dX8_call_46 : decode cX8_call 46 = .ok (.iload_n 1, 1) := by decide +kernel
theorem dX8_call_47 : decode cX8_call 47 = .ok (.iastore, 1) := by decide +kernel
theorem dX8_call_48 : decode cX8_call 48 = .ok (.aload_n 0, 1) := by decide +kernel
theorem dX8_call_49 : decode cX8_call 49 = .ok (.dup, 1) := by decide +kernel
theorem dX8_call_50 : decode cX8_call 50 = .ok (.getfield 143, 3) := by decide +kernel
theorem dX8_call_53 : decode cX8_call 53 = .ok (.iconst 1, 1) := by decide +kernel
theorem dX8_call_54 : decode cX8_call 54 = .ok (.iadd, 1) := by decide +kernel
theorem dX8_call_55 : decode cX8_call 55 = .ok (.putfield 143, 3) := by decide +kernel
theorem dX8_call_58 : decode cX8_call 58 = .ok (.aload_n 0, 1) := by decide +kernel
theorem dX8_call_59 : decode cX8_call 59 = .ok (.invokevirtual 146, 3) := by decide +kernel
theorem dX8_call_62 : decode cX8_call 62 = .ok (.ireturn, 1) := by decide +kernel
set_option maxRecDepth 20000 in
theorem ggX8_back_X8_here : GoodIn wsX8_back wsX8_here := goodIn_r _ [6, 1, 7, 8, 9, 10, 11, 12, 13, 14, 15, 16, 17, 18, 19, 20, 21, 22, 23, 24, 25, 26, 27, 28, 29, 30, 31, 32, 33, 34, 35, 36] (by decide +kernel) (by decide +kernel)
set_option maxRecDepth 20000 in
theorem gX8_back_X8_here : GoodIn wsX8_back (wsV RX8 146 RX8 yX8_here wsX8_here) := goodIn_app (goodIn_of _ (by decide +kernel)) ggX8_back_X8_here
theorem dX8_back_0 : decode cX8_back 0 = .ok (.aload_n 0, 1) := by decide +kernel
theorem dX8_back_1 : decode cX8_back 1 = .ok (.getfield 143, 3) := by decide +kernel
theorem dX8_back_4 : decode cX8_back 4 = .ok (.ifCond .ne 6, 3) := by decide +kernel
theorem dX8_back_7 : decode cX8_back 7 = .ok (.bipush (-3), 2) := by decide +kernel
theorem dX8_back_9 : decode cX8_back 9 = .ok (.ireturn, 1) := by decide +kernel
theorem dX8_back_10 : decode cX8_back 10 = .ok (.aload_n 0, 1) := by decide +kernel
theorem dX8_back_11 : decode cX8_back 11 = .ok (.dup, 1) := by decide +kernel
theorem dX8_back_12 : decode cX8_back 12 = .ok (.getfield 143, 3) := by decide +kernel
theorem dX8_back_15 : decode cX8_back 15 = .ok (.iconst 1, 1) := by decide +kernel
theorem dX8_back_16 : decode cX8_back 16 = .ok (.isub, 1) := by decide +kernel
theorem dX8_back_17 : decode cX8_back 17 = .ok (.putfield 143, 3) := by decide +kernel
theorem dX8_back_20 : decode cX8_back 20 = .ok (.aload_n 0, 1) := by decide +kernel
theorem dX8_back_21 : decode cX8_back 21 = .ok (.invokevirtual 146, 3) := by decide +kernel
theorem dX8_back_24 : decode cX8_back 24 = .ok (.ireturn, 1) := by decide +kernel
theorem dX8_running_0 : decode cX8_running 0 = .ok (.iload_n 1, 1) := by decide +kernel
theorem dX8_running_1 : decode cX8_running 1 = .ok (.ifCond .ge 8, 3) := by decide +kernel
theorem dX8_running_4 : decode cX8_running 4 = .ok (.bipush (-2), 2) := by decide +kernel
theorem dX8_running_6 : decode cX8_running 6 = .ok (.goto 22, 3) := by decide +kernel
theorem dX8_running_9 : decode cX8_running 9 = .ok (.iload_n 1, 1) := by decide +kernel
theorem dX8_running_10 : decode cX8_running 10 = .ok (.aload_n 0, 1) := by decide +kernel
theorem dX8_running_11 : decode cX8_running 11 = .ok (.getfield 143, 3) := by decide +kernel
theorem dX8_running_14 : decode cX8_running 14 = .ok (.if_icmp .ge 12, 3) := by decide +kernel
theorem dX8_running_17 : decode cX8_running 17 = .ok (.aload_n 0, 1) := by decide +kernel
theorem dX8_running_18 : decode cX8_running 18 = .ok (.getfield 50, 3) := by decide +kernel
theorem dX8_running_21 : decode cX8_running 21 = .ok (.iload_n 1, 1) := by decide +kernel
theorem dX8_running_22 : decode cX8_running 22 = .ok (.iaload, 1) := by decide +kernel
theorem dX8_running_23 : decode cX8_running 23 = .ok (.goto 5, 3) := by decide +kernel
theorem dX8_running_26 : decode cX8_running 26 = .ok (.bipush (-9), 2) := by decide +kernel
theorem dX8_running_28 : decode cX8_running 28 = .ok (.ireturn, 1) := by decide +kernel
theorem dX8_begins_0 : decode cX8_begins 0 = .ok (.aload_n 0, 1) := by decide +kernel
theorem dX8_begins_1 : decode cX8_begins 1 = .ok (.getfield 53, 3) := by decide +kernel
theorem dX8_begins_4 : decode cX8_begins 4 = .ok (.aload_n 0, 1) := by decide +kernel
theorem dX8_begins_5 : decode cX8_begins 5 = .ok (.getfield 150, 3) := by decide +kernel
theorem dX8_begins_8 : decode cX8_begins 8 = .ok (.iload_n 1, 1) := by decide +kernel
theorem dX8_begins_9 : decode cX8_begins 9 = .ok (.iastore, 1) := by decide +kernel
theorem dX8_begins_10 : decode cX8_begins 10 = .ok (.aload_n 0, 1) := by decide +kernel
theorem dX8_begins_11 : decode cX8_begins 11 = .ok (.getfield 56, 3) := by decide +kernel
theorem dX8_begins_14 : decode cX8_begins 14 = .ok (.aload_n 0, 1) := by decide +kernel
theorem dX8_begins_15 : decode cX8_begins 15 = .ok (.getfield 150, 3) := by decide +kernel
theorem dX8_begins_18 : decode cX8_begins 18 = .ok (.iconst 0, 1) := by decide +kernel
theorem dX8_begins_19 : decode cX8_begins 19 = .ok (.iastore, 1) := by decide +kernel
theorem dX8_begins_20 : decode cX8_begins 20 = .ok (.aload_n 0, 1) := by decide +kernel
theorem dX8_begins_21 : decode cX8_begins 21 = .ok (.getfield 59, 3) := by decide +kernel
theorem dX8_begins_24 : decode cX8_begins 24 = .ok (.aload_n 0, 1) := by decide +kernel
theorem dX8_begins_25 : decode cX8_begins 25 = .ok (.getfield 150, 3) := by decide +kernel
theorem dX8_begins_28 : decode cX8_begins 28 = .ok (.bipush (-9), 2) := by decide +kernel
theorem dX8_begins_30 : decode cX8_begins 30 = .ok (.iastore, 1) := by decide +kernel
theorem dX8_begins_31 : decode cX8_begins 31 = .ok (.aload_n 0, 1) := by decide +kernel
theorem dX8_begins_32 : decode cX8_begins 32 = .ok (.dup, 1) := by decide +kernel
theorem dX8_begins_33 : decode cX8_begins 33 = .ok (.getfield 150, 3) := by decide +kernel
theorem dX8_begins_36 : decode cX8_begins 36 = .ok (.iconst 1, 1) := by decide +kernel
theorem dX8_begins_37 : decode cX8_begins 37 = .ok (.iadd, 1) := by decide +kernel
theorem dX8_begins_38 : decode cX8_begins 38 = .ok (.putfield 150, 3) := by decide +kernel
theorem dX8_begins_41 : decode cX8_begins 41 = .ok (.return_, 1) := by decide +kernel
set_option maxRecDepth 20000 in
theorem ggX8_codes_X8_begins : GoodIn wsX8_codes wsX8_begins := goodIn_r _ [10, 11, 1, 2, 4, 20, 21, 22, 23, 24, 25, 26, 27, 28, 29, 30, 31, 32, 33, 34, 35, 36, 37, 38, 39, 40, 41, 42, 43, 44, 45, 46, 47] (by decide +kernel) (by decide +kernel)
set_option maxRecDepth 20000 in
theorem gX8_codes_X8_begins : GoodIn wsX8_codes (wsV RX8 153 RX8 yX8_begins wsX8_begins) := goodIn_app (goodIn_of _ (by decide +kernel)) ggX8_codes_X8_begins
set_option maxRecDepth 20000 in
theorem ggX8_codes_X8_isPlain : GoodIn wsX8_codes wsX8_isPlain := goodIn_r _ [15, 16, 17, 18, 9, 19, 20, 21, 22, 23, 24, 25, 26, 27, 28, 29, 30, 31, 32, 33, 34, 35, 36, 37, 38, 39, 40, 41, 42, 43, 44, 45, 46, 47] (by decide +kernel) (by decide +kernel)
set_option maxRecDepth 20000 in
theorem gX8_codes_X8_isPlain : GoodIn wsX8_codes (wsV RX8 128 RX8 yX8_isPlain wsX8_isPlain) := goodIn_app (goodIn_of _ (by decide +kernel)) ggX8_codes_X8_isPlain
theorem dX8_codes_0 : decode cX8_codes 0 = .ok (.aload_n 0, 1) := by decide +kernel
theorem dX8_codes_1 : decode cX8_codes 1 = .ok (.iconst 0, 1) := by decide +kernel
theorem dX8_codes_2 : decode cX8_codes 2 = .ok (.putfield 150, 3) := by decide +kernel
theorem dX8_codes_5 : decode cX8_codes 5 = .ok (.aload_n 0, 1) := by decide +kernel
theorem dX8_codes_6 : decode cX8_codes 6 = .ok (.iconst 0, 1) := by decide +kernel
theorem dX8_codes_7 : decode cX8_codes 7 = .ok (.invokevirtual 153, 3) := by decide +kernel
theorem dX8_codes_10 : decode cX8_codes 10 = .ok (.iconst 0, 1) := by decide +kernel
theorem dX8_codes_11 : decode cX8_codes 11 = .ok (.istore 5, 2) := by decide +kernel
theorem dX8_codes_13 : decode cX8_codes 13 = .ok (.iload 5, 2) := by decide +kernel
theorem dX8_codes_15 : decode cX8_codes 15 = .ok (.iload 4, 2) := by decide +kernel
theorem dX8_codes_17 : decode cX8_codes 17 = .ok (.if_icmp .ge 80, 3) := by decide +kernel
theorem dX8_codes_20 : decode cX8_codes 20 = .ok (.aload_n 2, 1) := by decide +kernel
theorem dX8_codes_21 : decode cX8_codes 21 = .ok (.iload_n 3, 1) := by decide +kernel
theorem dX8_codes_22 : decode cX8_codes 22 = .ok (.iload 5, 2) := by decide +kernel
theorem dX8_codes_24 : decode cX8_codes 24 = .ok (.iadd, 1) := by decide +kernel
theorem dX8_codes_25 : decode cX8_codes 25 = .ok (.iaload, 1) := by decide +kernel
theorem dX8_codes_26 : decode cX8_codes 26 = .ok (.istore 6, 2) := by decide +kernel
theorem dX8_codes_28 : decode cX8_codes 28 = .ok (.aload_n 0, 1) := by decide +kernel
theorem dX8_codes_29 : decode cX8_codes 29 = .ok (.iload_n 1, 1) := by decide +kernel
theorem dX8_codes_30 : decode cX8_codes 30 = .ok (.iload 6, 2) := by decide +kernel
theorem dX8_codes_32 : decode cX8_codes 32 = .ok (.invokevirtual 128, 3) := by decide +kernel
theorem dX8_codes_35 : decode cX8_codes 35 = .ok (.ifCond .eq 32, 3) := by decide +kernel
theorem dX8_codes_38 : decode cX8_codes 38 = .ok (.aload_n 0, 1) := by decide +kernel
theorem dX8_codes_39 : decode cX8_codes 39 = .ok (.getfield 56, 3) := by decide +kernel
theorem dX8_codes_42 : decode cX8_codes 42 = .ok (.aload_n 0, 1) := by decide +kernel
theorem dX8_codes_43 : decode cX8_codes 43 = .ok (.getfield 150, 3) := by decide +kernel
theorem dX8_codes_46 : decode cX8_codes 46 = .ok (.iconst 1, 1) := by decide +kernel
theorem dX8_codes_47 : decode cX8_codes 47 = .ok (.isub, 1) := by decide +kernel
theorem dX8_codes_48 : decode cX8_codes 48 = .ok (.dup2, 1) := by decide +kernel
theorem dX8_codes_49 : decode cX8_codes 49 = .ok (.iaload, 1) := by decide +kernel
theorem dX8_codes_50 : decode cX8_codes 50 = .ok (.aload_n 0, 1) := by decide +kernel
theorem dX8_codes_51 : decode cX8_codes 51 = .ok (.getfield 38, 3) := by decide +kernel
theorem dX8_codes_54 : decode cX8_codes 54 = .ok (.bipush 24, 2) := by decide +kernel
theorem dX8_codes_56 : decode cX8_codes 56 = .ok (.iload_n 1, 1) := by decide +kernel
theorem dX8_codes_57 : decode cX8_codes 57 = .ok (.imul, 1) := by decide +kernel
theorem dX8_codes_58 : decode cX8_codes 58 = .ok (.iload 6, 2) := by decide +kernel
theorem dX8_codes_60 : decode cX8_codes 60 = .ok (.iadd, 1) := by decide +kernel
theorem dX8_codes_61 : decode cX8_codes 61 = .ok (.iaload, 1) := by decide +kernel
theorem dX8_codes_62 : decode cX8_codes 62 = .ok (.iadd, 1) := by decide +kernel
theorem dX8_codes_63 : decode cX8_codes 63 = .ok (.iastore, 1) := by decide +kernel
theorem dX8_codes_64 : decode cX8_codes 64 = .ok (.goto 27, 3) := by decide +kernel
theorem dX8_codes_67 : decode cX8_codes 67 = .ok (.aload_n 0, 1) := by decide +kernel
theorem dX8_codes_68 : decode cX8_codes 68 = .ok (.getfield 59, 3) := by decide +kernel
theorem dX8_codes_71 : decode cX8_codes 71 = .ok (.aload_n 0, 1) := by decide +kernel
theorem dX8_codes_72 : decode cX8_codes 72 = .ok (.getfield 150, 3) := by decide +kernel
theorem dX8_codes_75 : decode cX8_codes 75 = .ok (.iconst 1, 1) := by decide +kernel
theorem dX8_codes_76 : decode cX8_codes 76 = .ok (.isub, 1) := by decide +kernel
theorem dX8_codes_77 : decode cX8_codes 77 = .ok (.iload 6, 2) := by decide +kernel
theorem dX8_codes_79 : decode cX8_codes 79 = .ok (.iastore, 1) := by decide +kernel
theorem dX8_codes_80 : decode cX8_codes 80 = .ok (.aload_n 0, 1) := by decide +kernel
theorem dX8_codes_81 : decode cX8_codes 81 = .ok (.aload_n 0, 1) := by decide +kernel
theorem dX8_codes_82 : decode cX8_codes 82 = .ok (.getfield 13, 3) := by decide +kernel
theorem dX8_codes_85 : decode cX8_codes 85 = .ok (.iload 6, 2) := by decide +kernel
theorem dX8_codes_87 : decode cX8_codes 87 = .ok (.iaload, 1) := by decide +kernel
theorem dX8_codes_88 : decode cX8_codes 88 = .ok (.invokevirtual 153, 3) := by decide +kernel
theorem dX8_codes_91 : decode cX8_codes 91 = .ok (.iinc 5 1, 3) := by decide +kernel
theorem dX8_codes_94 : decode cX8_codes 94 = .ok (.goto (-81), 3) := by decide +kernel
theorem dX8_codes_97 : decode cX8_codes 97 = .ok (.return_, 1) := by decide +kernel
set_option maxRecDepth 20000 in
theorem ggX8_piece_X8_isPlan : GoodIn wsX8_piece wsX8_isPlan := goodIn_r _ [11, 12, 13, 14, 10, 15, 34, 35, 36, 37, 38, 39, 40, 41, 42, 43, 44, 45, 46, 47, 48, 49, 50, 51, 52, 53, 54, 55, 56, 57, 58, 59, 60, 61] (by decide +kernel) (by decide +kernel)
set_option maxRecDepth 20000 in
theorem gX8_piece_X8_isPlan : GoodIn wsX8_piece (wsV RX8 125 RX8 yX8_isPlan wsX8_isPlan) := goodIn_app (goodIn_of _ (by decide +kernel)) ggX8_piece_X8_isPlan
set_option maxRecDepth 20000 in
theorem ggX8_piece_X8_within : GoodIn wsX8_piece wsX8_within := goodIn_r _ [15] (by decide +kernel) (by decide +kernel)
set_option maxRecDepth 20000 in
theorem gX8_piece_X8_within : GoodIn wsX8_piece (va_wsS RX8 74 yX8_within wsX8_within) := goodIn_app (goodIn_of _ (by decide +kernel)) ggX8_piece_X8_within
set_option maxRecDepth 20000 in
theorem ggX8_piece_X8_codes : GoodIn wsX8_piece wsX8_codes := goodIn_r _ [19, 3, 5, 20, 6, 21, 22, 23, 24, 10, 25, 4, 26, 27, 28, 29, 30, 31, 32, 33, 34, 35, 36, 37, 38, 39, 40, 41, 42, 43, 44, 45, 46, 47, 48, 49, 50, 51, 52, 53, 54, 55, 56, 57, 58, 59, 60, 61] (by decide +kernel) (by decide +kernel)
set_option maxRecDepth 20000 in
theorem gX8_piece_X8_codes : GoodIn wsX8_piece (wsV RX8 156 RX8 yX8_codes wsX8_codes) := goodIn_app (goodIn_of _ (by decide +kernel)) ggX8_piece_X8_codes
theorem dX8_piece_0 : decode cX8_piece 0 = .ok (.aload_n 0, 1) := by decide +kernel
theorem dX8_piece_1 : decode cX8_piece 1 = .ok (.iload_n 1, 1) := by decide +kernel
theorem dX8_piece_2 : decode cX8_piece 2 = .ok (.invokevirtual 125, 3) := by decide +kernel
theorem dX8_piece_5 : decode cX8_piece 5 = .ok (.ifCond .ne 5, 3) := by decide +kernel
theorem dX8_piece_8 : decode cX8_piece 8 = .ok (.iconst (-1), 1) := by decide +kernel
theorem dX8_piece_9 : decode cX8_piece 9 = .ok (.ireturn, 1) := by decide +kernel
theorem dX8_piece_10 : decode cX8_piece 10 = .ok (.iload_n 2, 1) := by decide +kernel
theorem dX8_piece_11 : decode cX8_piece 11 = .ok (.ifCond .lt 12, 3) := by decide +kernel
theorem dX8_piece_14 : decode cX8_piece 14 = .ok (.iload_n 3, 1) := by decide +kernel
theorem dX8_piece_15 : decode cX8_piece 15 = .ok (.iconst 0, 1) := by decide +kernel
theorem dX8_piece_16 : decode cX8_piece 16 = .ok (.iconst 2, 1) := by decide +kernel
theorem dX8_piece_17 : decode cX8_piece 17 = .ok (.invokestatic 74, 3) := by decide +kernel
theorem dX8_piece_20 : decode cX8_piece 20 = .ok (.ifCond .ne 6, 3) := by decide +kernel
theorem dX8_piece_23 : decode cX8_piece 23 = .ok (.bipush (-2), 2) := by decide +kernel
theorem dX8_piece_25 : decode cX8_piece 25 = .ok (.ireturn, 1) := by decide +kernel
theorem dX8_piece_26 : decode cX8_piece 26 = .ok (.aload_n 0, 1) := by decide +kernel
theorem dX8_piece_27 : decode cX8_piece 27 = .ok (.iload_n 1, 1) := by decide +kernel
theorem dX8_piece_28 : decode cX8_piece 28 = .ok (.aload_n 0, 1) := by decide +kernel
theorem dX8_piece_29 : decode cX8_piece 29 = .ok (.getfield 50, 3) := by decide +kernel
theorem dX8_piece_32 : decode cX8_piece 32 = .ok (.iconst 0, 1) := by decide +kernel
theorem dX8_piece_33 : decode cX8_piece 33 = .ok (.aload_n 0, 1) := by decide +kernel
theorem dX8_piece_34 : decode cX8_piece 34 = .ok (.getfield 143, 3) := by decide +kernel
theorem dX8_piece_37 : decode cX8_piece 37 = .ok (.invokevirtual 156, 3) := by decide +kernel
theorem dX8_piece_40 : decode cX8_piece 40 = .ok (.iload_n 2, 1) := by decide +kernel
theorem dX8_piece_41 : decode cX8_piece 41 = .ok (.aload_n 0, 1) := by decide +kernel
theorem dX8_piece_42 : decode cX8_piece 42 = .ok (.getfield 150, 3) := by decide +kernel
theorem dX8_piece_45 : decode cX8_piece 45 = .ok (.if_icmp .lt 6, 3) := by decide +kernel
theorem dX8_piece_48 : decode cX8_piece 48 = .ok (.bipush (-9), 2) := by decide +kernel
theorem dX8_piece_50 : decode cX8_piece 50 = .ok (.ireturn, 1) := by decide +kernel
theorem dX8_piece_51 : decode cX8_piece 51 = .ok (.iload_n 3, 1) := by decide +kernel
theorem dX8_piece_52 : decode cX8_piece 52 = .ok (.ifCond .ne 12, 3) := by decide +kernel
theorem dX8_piece_55 : decode cX8_piece 55 = .ok (.aload_n 0, 1) := by decide +kernel
theorem dX8_piece_56 : decode cX8_piece 56 = .ok (.getfield 53, 3) := by decide +kernel
theorem dX8_piece_59 : decode cX8_piece 59 = .ok (.iload_n 2, 1) := by decide +kernel
theorem dX8_piece_60 : decode cX8_piece 60 = .ok (.iaload, 1) := by decide +kernel
theorem dX8_piece_61 : decode cX8_piece 61 = .ok (.goto 23, 3) := by decide +kernel
theorem dX8_piece_64 : decode cX8_piece 64 = .ok (.iload_n 3, 1) := by decide +kernel
theorem dX8_piece_65 : decode cX8_piece 65 = .ok (.iconst 1, 1) := by decide +kernel
theorem dX8_piece_66 : decode cX8_piece 66 = .ok (.if_icmp .ne 12, 3) := by decide +kernel
theorem dX8_piece_69 : decode cX8_piece 69 = .ok (.aload_n 0, 1) := by decide +kernel
theorem dX8_piece_70 : decode cX8_piece 70 = .ok (.getfield 56, 3) := by decide +kernel
theorem dX8_piece_73 : decode cX8_piece 73 = .ok (.iload_n 2, 1) := by decide +kernel
theorem dX8_piece_74 : decode cX8_piece 74 = .ok (.iaload, 1) := by decide +kernel
theorem dX8_piece_75 : decode cX8_piece 75 = .ok (.goto 9, 3) := by decide +kernel
theorem dX8_piece_78 : decode cX8_piece 78 = .ok (.aload_n 0, 1) := by decide +kernel
theorem dX8_piece_79 : decode cX8_piece 79 = .ok (.getfield 59, 3) := by decide +kernel
theorem dX8_piece_82 : decode cX8_piece 82 = .ok (.iload_n 2, 1) := by decide +kernel
theorem dX8_piece_83 : decode cX8_piece 83 = .ok (.iaload, 1) := by decide +kernel
theorem dX8_piece_84 : decode cX8_piece 84 = .ok (.ireturn, 1) := by decide +kernel
set_option maxRecDepth 20000 in
theorem ggX8_pieces_X8_isPlan : GoodIn wsX8_pieces wsX8_isPlan := goodIn_r _ [8, 9, 10, 11, 7, 12, 34, 35, 36, 37, 38, 39, 40, 41, 42, 43, 44, 45, 46, 47, 48, 49, 50, 51, 52, 53, 54, 55, 56, 57, 58, 59, 60, 61] (by decide +kernel) (by decide +kernel)
set_option maxRecDepth 20000 in
theorem gX8_pieces_X8_isPlan : GoodIn wsX8_pieces (wsV RX8 125 RX8 yX8_isPlan wsX8_isPlan) := goodIn_app (goodIn_of _ (by decide +kernel)) ggX8_pieces_X8_isPlan
set_option maxRecDepth 20000 in
theorem ggX8_pieces_X8_codes : GoodIn wsX8_pieces wsX8_codes := goodIn_r _ [16, 3, 17, 18, 19, 20, 21, 22, 23, 7, 24, 25, 26, 27, 28, 29, 30, 31, 32, 33, 34, 35, 36, 37, 38, 39, 40, 41, 42, 43, 44, 45, 46, 47, 48, 49, 50, 51, 52, 53, 54, 55, 56, 57, 58, 59, 60, 61] (by decide +kernel) (by decide +kernel)
set_option maxRecDepth 20000 in
theorem gX8_pieces_X8_codes : GoodIn wsX8_pieces (wsV RX8 156 RX8 yX8_codes wsX8_codes) := goodIn_app (goodIn_of _ (by decide +kernel)) ggX8_pieces_X8_codes
theorem dX8_pieces_0 : decode cX8_pieces 0 = .ok (.aload_n 0, 1) := by decide +kernel
theorem dX8_pieces_1 : decode cX8_pieces 1 = .ok (.iload_n 1, 1) := by decide +kernel
theorem dX8_pieces_2 : decode cX8_pieces 2 = .ok (.invokevirtual 125, 3) := by decide +kernel
theorem dX8_pieces_5 : decode cX8_pieces 5 = .ok (.ifCond .ne 5, 3) := by decide +kernel
theorem dX8_pieces_8 : decode cX8_pieces 8 = .ok (.iconst (-1), 1) := by decide +kernel
theorem dX8_pieces_9 : decode cX8_pieces 9 = .ok (.ireturn, 1) := by decide +kernel
theorem dX8_pieces_10 : decode cX8_pieces 10 = .ok (.aload_n 0, 1) := by decide +kernel
theorem dX8_pieces_11 : decode cX8_pieces 11 = .ok (.iload_n 1, 1) := by decide +kernel
theorem dX8_pieces_12 : decode cX8_pieces 12 = .ok (.aload_n 0, 1) := by decide +kernel
theorem dX8_pieces_13 : decode cX8_pieces 13 = .ok (.getfield 50, 3) := by decide +kernel
theorem dX8_pieces_16 : decode cX8_pieces 16 = .ok (.iconst 0, 1) := by decide +kernel
theorem dX8_pieces_17 : decode cX8_pieces 17 = .ok (.aload_n 0, 1) := by decide +kernel
theorem dX8_pieces_18 : decode cX8_pieces 18 = .ok (.getfield 143, 3) := by decide +kernel
theorem dX8_pieces_21 : decode cX8_pieces 21 = .ok (.invokevirtual 156, 3) := by decide +kernel
theorem dX8_pieces_24 : decode cX8_pieces 24 = .ok (.aload_n 0, 1) := by decide +kernel
theorem dX8_pieces_25 : decode cX8_pieces 25 = .ok (.getfield 150, 3) := by decide +kernel
theorem dX8_pieces_28 : decode cX8_pieces 28 = .ok (.ireturn, 1) := by decide +kernel
set_option maxRecDepth 20000 in
theorem ggX8_isSnap_X8_within : GoodIn wsX8_isSnap wsX8_within := goodIn_r _ [5] (by decide +kernel) (by decide +kernel)
set_option maxRecDepth 20000 in
theorem gX8_isSnap_X8_within : GoodIn wsX8_isSnap (va_wsS RX8 74 yX8_within wsX8_within) := goodIn_app (goodIn_of _ (by decide +kernel)) ggX8_isSnap_X8_within
theorem dX8_isSnap_0 : decode cX8_isSnap 0 = .ok (.iload_n 1, 1) := by decide +kernel
theorem dX8_isSnap_1 : decode cX8_isSnap 1 = .ok (.iconst 0, 1) := by decide +kernel
theorem dX8_isSnap_2 : decode cX8_isSnap 2 = .ok (.aload_n 0, 1) := by decide +kernel
theorem dX8_isSnap_3 : decode cX8_isSnap 3 = .ok (.getfield 160, 3) := by decide +kernel
theorem dX8_isSnap_6 : decode cX8_isSnap 6 = .ok (.iconst 1, 1) := by decide +kernel
theorem dX8_isSnap_7 : decode cX8_isSnap 7 = .ok (.isub, 1) := by decide +kernel
theorem dX8_isSnap_8 : decode cX8_isSnap 8 = .ok (.invokestatic 74, 3) := by decide +kernel
theorem dX8_isSnap_11 : decode cX8_isSnap 11 = .ok (.ireturn, 1) := by decide +kernel
theorem dX8_snap_0 : decode cX8_snap 0 = .ok (.aload_n 0, 1) := by decide +kernel
theorem dX8_snap_1 : decode cX8_snap 1 = .ok (.getfield 160, 3) := by decide +kernel
theorem dX8_snap_4 : decode cX8_snap 4 = .ok (.bipush 10, 2) := by decide +kernel
theorem dX8_snap_6 : decode cX8_snap 6 = .ok (.if_icmp .ne 6, 3) := by decide +kernel
theorem dX8_snap_9 : decode cX8_snap 9 = .ok (.bipush (-4), 2) := by decide +kernel
theorem dX8_snap_11 : decode cX8_snap 11 = .ok (.ireturn, 1) := by decide +kernel
theorem dX8_snap_12 : decode cX8_snap 12 = .ok (.aload_n 0, 1) := by decide +kernel
theorem dX8_snap_13 : decode cX8_snap 13 = .ok (.getfield 62, 3) := by decide +kernel
theorem dX8_snap_16 : decode cX8_snap 16 = .ok (.aload_n 0, 1) := by decide +kernel
theorem dX8_snap_17 : decode cX8_snap 17 = .ok (.getfield 160, 3) := by decide +kernel
theorem dX8_snap_20 : decode cX8_snap 20 = .ok (.aload_n 0, 1) := by decide +kernel
theorem dX8_snap_21 : decode cX8_snap 21 = .ok (.getfield 89, 3) := by decide +kernel
theorem dX8_snap_24 : decode cX8_snap 24 = .ok (.iconst 1, 1) := by decide +kernel
theorem dX8_snap_25 : decode cX8_snap 25 = .ok (.isub, 1) := by decide +kernel
theorem dX8_snap_26 : decode cX8_snap 26 = .ok (.iastore, 1) := by decide +kernel
theorem dX8_snap_27 : decode cX8_snap 27 = .ok (.aload_n 0, 1) := by decide +kernel
theorem dX8_snap_28 : decode cX8_snap 28 = .ok (.getfield 65, 3) := by decide +kernel
theorem dX8_snap_31 : decode cX8_snap 31 = .ok (.aload_n 0, 1) := by decide +kernel
theorem dX8_snap_32 : decode cX8_snap 32 = .ok (.getfield 160, 3) := by decide +kernel
theorem dX8_snap_35 : decode cX8_snap 35 = .ok (.aload_n 0, 1) := by decide +kernel
theorem dX8_snap_36 : decode cX8_snap 36 = .ok (.getfield 143, 3) := by decide +kernel
theorem dX8_snap_39 : decode cX8_snap 39 = .ok (.iastore, 1) := by decide +kernel
theorem dX8_snap_40 : decode cX8_snap 40 = .ok (.iconst 0, 1) := by decide +kernel
theorem dX8_snap_41 : decode cX8_snap 41 = .ok (.istore_n 1, 1) := by decide +kernel
theorem dX8_snap_42 : decode cX8_snap 42 = .ok (.iload_n 1, 1) := by decide +kernel
theorem dX8_snap_43 : decode cX8_snap 43 = .ok (.aload_n 0, 1) := by decide +kernel
theorem dX8_snap_44 : decode cX8_snap 44 = .ok (.getfield 143, 3) := by decide +kernel
theorem dX8_snap_47 : decode cX8_snap 47 = .ok (.if_icmp .ge 29, 3) := by decide +kernel
theorem dX8_snap_50 : decode cX8_snap 50 = .ok (.aload_n 0, 1) := by decide +kernel
theorem dX8_snap_51 : decode cX8_snap 51 = .ok (.getfield 68, 3) := by decide +kernel
theorem dX8_snap_54 : decode cX8_snap 54 = .ok (.bipush 30, 2) := by decide +kernel
theorem dX8_snap_56 : decode cX8_snap 56 = .ok (.aload_n 0, 1) := by decide +kernel
theorem dX8_snap_57 : decode cX8_snap 57 = .ok (.getfield 160, 3) := by decide +kernel
theorem dX8_snap_60 : decode cX8_snap 60 = .ok (.imul, 1) := by decide +kernel
theorem dX8_snap_61 : decode cX8_snap 61 = .ok (.iload_n 1, 1) := by decide +kernel
theorem dX8_snap_62 : decode cX8_snap 62 = .ok (.iadd, 1) := by decide +kernel
theorem dX8_snap_63 : decode cX8_snap 63 = .ok (.aload_n 0, 1) := by decide +kernel
theorem dX8_snap_64 : decode cX8_snap 64 = .ok (.getfield 50, 3) := by decide +kernel
theorem dX8_snap_67 : decode cX8_snap 67 = .ok (.iload_n 1, 1) := by decide +kernel
theorem dX8_snap_68 : decode cX8_snap 68 = .ok (.iaload, 1) := by decide +kernel
theorem dX8_snap_69 : decode cX8_snap 69 = .ok (.iastore, 1) := by decide +kernel
theorem dX8_snap_70 : decode cX8_snap 70 = .ok (.iinc 1 1, 3) := by decide +kernel
theorem dX8_snap_73 : decode cX8_snap 73 = .ok (.goto (-31), 3) := by decide +kernel
theorem dX8_snap_76 : decode cX8_snap 76 = .ok (.aload_n 0, 1) := by decide +kernel
theorem dX8_snap_77 : decode cX8_snap 77 = .ok (.dup, 1) := by decide +kernel
theorem dX8_snap_78 : decode cX8_snap 78 = .ok (.getfield 160, 3) := by decide +kernel
theorem dX8_snap_81 : decode cX8_snap 81 = .ok (.iconst 1, 1) := by decide +kernel
theorem dX8_snap_82 : decode cX8_snap 82 = .ok (.iadd, 1) := by decide +kernel
theorem dX8_snap_83 : decode cX8_snap 83 = .ok (.putfield 160, 3) := by decide +kernel
theorem dX8_snap_86 : decode cX8_snap 86 = .ok (.aload_n 0, 1) := by decide +kernel
theorem dX8_snap_87 : decode cX8_snap 87 = .ok (.getfield 160, 3) := by decide +kernel
theorem dX8_snap_90 : decode cX8_snap 90 = .ok (.iconst 1, 1) := by decide +kernel
theorem dX8_snap_91 : decode cX8_snap 91 = .ok (.isub, 1) := by decide +kernel
theorem dX8_snap_92 : decode cX8_snap 92 = .ok (.ireturn, 1) := by decide +kernel
set_option maxRecDepth 20000 in
theorem ggX8_ofSnap_X8_isSnap : GoodIn wsX8_ofSnap wsX8_isSnap := goodIn_r _ [11, 12, 13, 14, 10, 15, 35, 36, 37, 38, 39, 40, 41, 42, 43, 44, 45, 46, 47, 48, 49, 50, 51, 52, 53, 54, 55, 56, 57, 58, 59, 60, 61, 62] (by decide +kernel) (by decide +kernel)
set_option maxRecDepth 20000 in
theorem gX8_ofSnap_X8_isSnap : GoodIn wsX8_ofSnap (wsV RX8 163 RX8 yX8_isSnap wsX8_isSnap) := goodIn_app (goodIn_of _ (by decide +kernel)) ggX8_ofSnap_X8_isSnap
set_option maxRecDepth 20000 in
theorem ggX8_ofSnap_X8_codes : GoodIn wsX8_ofSnap wsX8_codes := goodIn_r _ [19, 5, 6, 20, 21, 4, 22, 23, 24, 10, 25, 26, 27, 28, 29, 30, 31, 32, 33, 34, 35, 36, 37, 38, 39, 40, 41, 42, 43, 44, 45, 46, 47, 48, 49, 50, 51, 52, 53, 54, 55, 56, 57, 58, 59, 60, 61, 62] (by decide +kernel) (by decide +kernel)
set_option maxRecDepth 20000 in
theorem gX8_ofSnap_X8_codes : GoodIn wsX8_ofSnap (wsV RX8 156 RX8 yX8_codes wsX8_codes) := goodIn_app (goodIn_of _ (by decide +kernel)) ggX8_ofSnap_X8_codes
theorem dX8_ofSnap_0 : decode cX8_ofSnap 0 = .ok (.aload_n 0, 1) := by decide +kernel
theorem dX8_ofSnap_1 : decode cX8_ofSnap 1 = .ok (.iload_n 1, 1) := by decide +kernel
theorem dX8_ofSnap_2 : decode cX8_ofSnap 2 = .ok (.invokevirtual 163, 3) := by decide +kernel
theorem dX8_ofSnap_5 : decode cX8_ofSnap 5 = .ok (.ifCond .ne 5, 3) := by decide +kernel
theorem dX8_ofSnap_8 : decode cX8_ofSnap 8 = .ok (.iconst (-1), 1) := by decide +kernel
theorem dX8_ofSnap_9 : decode cX8_ofSnap 9 = .ok (.ireturn, 1) := by decide +kernel
theorem dX8_ofSnap_10 : decode cX8_ofSnap 10 = .ok (.aload_n 0, 1) := by decide +kernel
theorem dX8_ofSnap_11 : decode cX8_ofSnap 11 = .ok (.getfield 65, 3) := by decide +kernel
theorem dX8_ofSnap_14 : decode cX8_ofSnap 14 = .ok (.iload_n 1, 1) := by decide +kernel
theorem dX8_ofSnap_15 : decode cX8_ofSnap 15 = .ok (.iaload, 1) := by decide +kernel
theorem dX8_ofSnap_16 : decode cX8_ofSnap 16 = .ok (.istore_n 3, 1) := by decide +kernel
theorem dX8_ofSnap_17 : decode cX8_ofSnap 17 = .ok (.aload_n 0, 1) := by decide +kernel
theorem dX8_ofSnap_18 : decode cX8_ofSnap 18 = .ok (.aload_n 0, 1) := by decide +kernel
theorem dX8_ofSnap_19 : decode cX8_ofSnap 19 = .ok (.getfield 62, 3) := by decide +kernel
theorem dX8_ofSnap_22 : decode cX8_ofSnap 22 = .ok (.iload_n 1, 1) := by decide +kernel
theorem dX8_ofSnap_23 : decode cX8_ofSnap 23 = .ok (.iaload, 1) := by decide +kernel
theorem dX8_ofSnap_24 : decode cX8_ofSnap 24 = .ok (.aload_n 0, 1) := by decide +kernel
theorem dX8_ofSnap_25 : decode cX8_ofSnap 25 = .ok (.getfield 68, 3) := by decide +kernel
theorem dX8_ofSnap_28 : decode cX8_ofSnap 28 = .ok (.bipush 30, 2) := by decide +kernel
theorem dX8_ofSnap_30 : decode cX8_ofSnap 30 = .ok (.iload_n 1, 1) := by decide +kernel
theorem dX8_ofSnap_31 : decode cX8_ofSnap 31 = .ok (.imul, 1) := by decide +kernel
theorem dX8_ofSnap_32 : decode cX8_ofSnap 32 = .ok (.iload_n 3, 1) := by decide +kernel
theorem dX8_ofSnap_33 : decode cX8_ofSnap 33 = .ok (.invokevirtual 156, 3) := by decide +kernel
theorem dX8_ofSnap_36 : decode cX8_ofSnap 36 = .ok (.iload_n 2, 1) := by decide +kernel
theorem dX8_ofSnap_37 : decode cX8_ofSnap 37 = .ok (.tableswitch 88 0 4 #[35, 42, 69, 74, 86], 35) := by decide +kernel
theorem dX8_ofSnap_72 : decode cX8_ofSnap 72 = .ok (.aload_n 0, 1) := by decide +kernel
theorem dX8_ofSnap_73 : decode cX8_ofSnap 73 = .ok (.getfield 62, 3) := by decide +kernel
theorem dX8_ofSnap_76 : decode cX8_ofSnap 76 = .ok (.iload_n 1, 1) := by decide +kernel
theorem dX8_ofSnap_77 : decode cX8_ofSnap 77 = .ok (.iaload, 1) := by decide +kernel
theorem dX8_ofSnap_78 : decode cX8_ofSnap 78 = .ok (.ireturn, 1) := by decide +kernel
theorem dX8_ofSnap_79 : decode cX8_ofSnap 79 = .ok (.iload_n 3, 1) := by decide +kernel
theorem dX8_ofSnap_80 : decode cX8_ofSnap 80 = .ok (.ifCond .ne 7, 3) := by decide +kernel
theorem dX8_ofSnap_83 : decode cX8_ofSnap 83 = .ok (.iconst 0, 1) := by decide +kernel
theorem dX8_ofSnap_84 : decode cX8_ofSnap 84 = .ok (.goto 21, 3) := by decide +kernel
theorem dX8_ofSnap_87 : decode cX8_ofSnap 87 = .ok (.aload_n 0, 1) := by decide +kernel
theorem dX8_ofSnap_88 : decode cX8_ofSnap 88 = .ok (.getfield 13, 3) := by decide +kernel
theorem dX8_ofSnap_91 : decode cX8_ofSnap 91 = .ok (.aload_n 0, 1) := by decide +kernel
theorem dX8_ofSnap_92 : decode cX8_ofSnap 92 = .ok (.getfield 68, 3) := by decide +kernel
theorem dX8_ofSnap_95 : decode cX8_ofSnap 95 = .ok (.bipush 30, 2) := by decide +kernel
theorem dX8_ofSnap_97 : decode cX8_ofSnap 97 = .ok (.iload_n 1, 1) := by decide +kernel
theorem dX8_ofSnap_98 : decode cX8_ofSnap 98 = .ok (.imul, 1) := by decide +kernel
theorem dX8_ofSnap_99 : decode cX8_ofSnap 99 = .ok (.iload_n 3, 1) := by decide +kernel
theorem dX8_ofSnap_100 : decode cX8_ofSnap 100 = .ok (.iadd, 1) := by decide +kernel
theorem dX8_ofSnap_101 : decode cX8_ofSnap 101 = .ok (.iconst 1, 1) := by decide +kernel
theorem dX8_ofSnap_102 : decode cX8_ofSnap 102 = .ok (.isub, 1) := by decide +kernel
theorem dX8_ofSnap_103 : decode cX8_ofSnap 103 = .ok (.iaload, 1) := by decide +kernel
theorem dX8_ofSnap_104 : decode cX8_ofSnap 104 = .ok (.iaload, 1) := by decide +kernel
theorem dX8_ofSnap_105 : decode cX8_ofSnap 105 = .ok (.ireturn, 1) := by decide +kernel
theorem dX8_ofSnap_106 : decode cX8_ofSnap 106 = .ok (.aload_n 0, 1) := by decide +kernel
theorem dX8_ofSnap_107 : decode cX8_ofSnap 107 = .ok (.getfield 150, 3) := by decide +kernel
theorem dX8_ofSnap_110 : decode cX8_ofSnap 110 = .ok (.ireturn, 1) := by decide +kernel
theorem dX8_ofSnap_111 : decode cX8_ofSnap 111 = .ok (.aload_n 0, 1) := by decide +kernel
theorem dX8_ofSnap_112 : decode cX8_ofSnap 112 = .ok (.getfield 56, 3) := by decide +kernel
theorem dX8_ofSnap_115 : decode cX8_ofSnap 115 = .ok (.aload_n 0, 1) := by decide +kernel
theorem dX8_ofSnap_116 : decode cX8_ofSnap 116 = .ok (.getfield 150, 3) := by decide +kernel
theorem dX8_ofSnap_119 : decode cX8_ofSnap 119 = .ok (.iconst 1, 1) := by decide +kernel
theorem dX8_ofSnap_120 : decode cX8_ofSnap 120 = .ok (.isub, 1) := by decide +kernel
theorem dX8_ofSnap_121 : decode cX8_ofSnap 121 = .ok (.iaload, 1) := by decide +kernel
theorem dX8_ofSnap_122 : decode cX8_ofSnap 122 = .ok (.ireturn, 1) := by decide +kernel
theorem dX8_ofSnap_123 : decode cX8_ofSnap 123 = .ok (.iload_n 3, 1) := by decide +kernel
theorem dX8_ofSnap_124 : decode cX8_ofSnap 124 = .ok (.ireturn, 1) := by decide +kernel
theorem dX8_ofSnap_125 : decode cX8_ofSnap 125 = .ok (.bipush (-2), 2) := by decide +kernel
theorem dX8_ofSnap_127 : decode cX8_ofSnap 127 = .ok (.ireturn, 1) := by decide +kernel
set_option maxRecDepth 20000 in
theorem ggX8_snapped_X8_isSnap : GoodIn wsX8_snapped wsX8_isSnap := goodIn_r _ [7, 8, 9, 10, 6, 11, 12, 13, 14, 15, 16, 17, 18, 19, 20, 21, 22, 23, 24, 25, 26, 27, 28, 29, 30, 31, 32, 33, 34, 35, 36, 37, 38, 39] (by decide +kernel) (by decide +kernel)
set_option maxRecDepth 20000 in
theorem gX8_snapped_X8_isSnap : GoodIn wsX8_snapped (wsV RX8 163 RX8 yX8_isSnap wsX8_isSnap) := goodIn_app (goodIn_of _ (by decide +kernel)) ggX8_snapped_X8_isSnap
theorem dX8_snapped_0 : decode cX8_snapped 0 = .ok (.aload_n 0, 1) := by decide +kernel
theorem dX8_snapped_1 : decode cX8_snapped 1 = .ok (.iload_n 1, 1) := by decide +kernel
theorem dX8_snapped_2 : decode cX8_snapped 2 = .ok (.invokevirtual 163, 3) := by decide +kernel
theorem dX8_snapped_5 : decode cX8_snapped 5 = .ok (.ifCond .ne 5, 3) := by decide +kernel
theorem dX8_snapped_8 : decode cX8_snapped 8 = .ok (.iconst (-1), 1) := by decide +kernel
theorem dX8_snapped_9 : decode cX8_snapped 9 = .ok (.ireturn, 1) := by decide +kernel
theorem dX8_snapped_10 : decode cX8_snapped 10 = .ok (.iload_n 2, 1) := by decide +kernel
theorem dX8_snapped_11 : decode cX8_snapped 11 = .ok (.ifCond .ge 8, 3) := by decide +kernel
theorem dX8_snapped_14 : decode cX8_snapped 14 = .ok (.bipush (-2), 2) := by decide +kernel
theorem dX8_snapped_16 : decode cX8_snapped 16 = .ok (.goto 29, 3) := by decide +kernel
theorem dX8_snapped_19 : decode cX8_snapped 19 = .ok (.iload_n 2, 1) := by decide +kernel
theorem dX8_snapped_20 : decode cX8_snapped 20 = .ok (.aload_n 0, 1) := by decide +kernel
theorem dX8_snapped_21 : decode cX8_snapped 21 = .ok (.getfield 65, 3) := by decide +kernel
theorem dX8_snapped_24 : decode cX8_snapped 24 = .ok (.iload_n 1, 1) := by decide +kernel
theorem dX8_snapped_25 : decode cX8_snapped 25 = .ok (.iaload, 1) := by decide +kernel
theorem dX8_snapped_26 : decode cX8_snapped 26 = .ok (.if_icmp .ge 17, 3) := by decide +kernel
theorem dX8_snapped_29 : decode cX8_snapped 29 = .ok (.aload_n 0, 1) := by decide +kernel
theorem dX8_snapped_30 : decode cX8_snapped 30 = .ok (.getfield 68, 3) := by decide +kernel
theorem dX8_snapped_33 : decode cX8_snapped 33 = .ok (.bipush 30, 2) := by decide +kernel
theorem dX8_snapped_35 : decode cX8_snapped 35 = .ok (.iload_n 1, 1) := by decide +kernel
theorem dX8_snapped_36 : decode cX8_snapped 36 = .ok (.imul, 1) := by decide +kernel
theorem dX8_snapped_37 : decode cX8_snapped 37 = .ok (.iload_n 2, 1) := by decide +kernel
theorem dX8_snapped_38 : decode cX8_snapped 38 = .ok (.iadd, 1) := by decide +kernel
theorem dX8_snapped_39 : decode cX8_snapped 39 = .ok (.iaload, 1) := by decide +kernel
theorem dX8_snapped_40 : decode cX8_snapped 40 = .ok (.goto 5, 3) := by decide +kernel
theorem dX8_snapped_43 : decode cX8_snapped 43 = .ok (.bipush (-9), 2) := by decide +kernel
theorem dX8_snapped_45 : decode cX8_snapped 45 = .ok (.ireturn, 1) := by decide +kernel
set_option maxRecDepth 20000 in
theorem ggX8_same_X8_isSnap : GoodIn wsX8_same wsX8_isSnap := goodIn_r _ [7, 8, 9, 10, 6, 11, 12, 13, 14, 15, 16, 17, 18, 19, 20, 21, 22, 23, 24, 25, 26, 27, 28, 29, 30, 31, 32, 33, 34, 35, 36, 37, 38, 39] (by decide +kernel) (by decide +kernel)
set_option maxRecDepth 20000 in
theorem gX8_same_X8_isSnap : GoodIn wsX8_same (wsV RX8 163 RX8 yX8_isSnap wsX8_isSnap) := goodIn_app (goodIn_of _ (by decide +kernel)) ggX8_same_X8_isSnap
theorem dX8_same_0 : decode cX8_same 0 = .ok (.aload_n 0, 1) := by decide +kernel
theorem dX8_same_1 : decode cX8_same 1 = .ok (.iload_n 1, 1) := by decide +kernel
theorem dX8_same_2 : decode cX8_same 2 = .ok (.invokevirtual 163, 3) := by decide +kernel
theorem dX8_same_5 : decode cX8_same 5 = .ok (.ifCond .eq 11, 3) := by decide +kernel
theorem dX8_same_8 : decode cX8_same 8 = .ok (.aload_n 0, 1) := by decide +kernel
theorem dX8_same_9 : decode cX8_same 9 = .ok (.iload_n 2, 1) := by decide +kernel
theorem dX8_same_10 : decode cX8_same 10 = .ok (.invokevirtual 163, 3) := by decide +kernel
theorem dX8_same_13 : decode cX8_same 13 = .ok (.ifCond .ne 5, 3) := by decide +kernel
theorem dX8_same_16 : decode cX8_same 16 = .ok (.iconst (-1), 1) := by decide +kernel
theorem dX8_same_17 : decode cX8_same 17 = .ok (.ireturn, 1) := by decide +kernel
theorem dX8_same_18 : decode cX8_same 18 = .ok (.aload_n 0, 1) := by decide +kernel
theorem dX8_same_19 : decode cX8_same 19 = .ok (.getfield 65, 3) := by decide +kernel
theorem dX8_same_22 : decode cX8_same 22 = .ok (.iload_n 1, 1) := by decide +kernel
theorem dX8_same_23 : decode cX8_same 23 = .ok (.iaload, 1) := by decide +kernel
theorem dX8_same_24 : decode cX8_same 24 = .ok (.aload_n 0, 1) := by decide +kernel
theorem dX8_same_25 : decode cX8_same 25 = .ok (.getfield 65, 3) := by decide +kernel
theorem dX8_same_28 : decode cX8_same 28 = .ok (.iload_n 2, 1) := by decide +kernel
theorem dX8_same_29 : decode cX8_same 29 = .ok (.iaload, 1) := by decide +kernel
theorem dX8_same_30 : decode cX8_same 30 = .ok (.if_icmp .ne 7, 3) := by decide +kernel
theorem dX8_same_33 : decode cX8_same 33 = .ok (.iconst 1, 1) := by decide +kernel
theorem dX8_same_34 : decode cX8_same 34 = .ok (.goto 4, 3) := by decide +kernel
theorem dX8_same_37 : decode cX8_same 37 = .ok (.iconst 0, 1) := by decide +kernel
theorem dX8_same_38 : decode cX8_same 38 = .ok (.istore_n 3, 1) := by decide +kernel
theorem dX8_same_39 : decode cX8_same 39 = .ok (.iconst 0, 1) := by decide +kernel
theorem dX8_same_40 : decode cX8_same 40 = .ok (.istore 4, 2) := by decide +kernel
theorem dX8_same_42 : decode cX8_same 42 = .ok (.iload 4, 2) := by decide +kernel
theorem dX8_same_44 : decode cX8_same 44 = .ok (.aload_n 0, 1) := by decide +kernel
theorem dX8_same_45 : decode cX8_same 45 = .ok (.getfield 65, 3) := by decide +kernel
theorem dX8_same_48 : decode cX8_same 48 = .ok (.iload_n 1, 1) := by decide +kernel
theorem dX8_same_49 : decode cX8_same 49 = .ok (.iaload, 1) := by decide +kernel
theorem dX8_same_50 : decode cX8_same 50 = .ok (.if_icmp .ge 46, 3) := by decide +kernel
theorem dX8_same_53 : decode cX8_same 53 = .ok (.iload_n 3, 1) := by decide +kernel
theorem dX8_same_54 : decode cX8_same 54 = .ok (.ifCond .eq 34, 3) := by decide +kernel
theorem dX8_same_57 : decode cX8_same 57 = .ok (.aload_n 0, 1) := by decide +kernel
theorem dX8_same_58 : decode cX8_same 58 = .ok (.getfield 68, 3) := by decide +kernel
theorem dX8_same_61 : decode cX8_same 61 = .ok (.bipush 30, 2) := by decide +kernel
theorem dX8_same_63 : decode cX8_same 63 = .ok (.iload_n 1, 1) := by decide +kernel
theorem dX8_same_64 : decode cX8_same 64 = .ok (.imul, 1) := by decide +kernel
theorem dX8_same_65 : decode cX8_same 65 = .ok (.iload 4, 2) := by decide +kernel
theorem dX8_same_67 : decode cX8_same 67 = .ok (.iadd, 1) := by decide +kernel
theorem dX8_same_68 : decode cX8_same 68 = .ok (.iaload, 1) := by decide +kernel
theorem dX8_same_69 : decode cX8_same 69 = .ok (.aload_n 0, 1) := by decide +kernel
theorem dX8_same_70 : decode cX8_same 70 = .ok (.getfield 68, 3) := by decide +kernel
theorem dX8_same_73 : decode cX8_same 73 = .ok (.bipush 30, 2) := by decide +kernel
theorem dX8_same_75 : decode cX8_same 75 = .ok (.iload_n 2, 1) := by decide +kernel
theorem dX8_same_76 : decode cX8_same 76 = .ok (.imul, 1) := by decide +kernel
theorem dX8_same_77 : decode cX8_same 77 = .ok (.iload 4, 2) := by decide +kernel
theorem dX8_same_79 : decode cX8_same 79 = .ok (.iadd, 1) := by decide +kernel
theorem dX8_same_80 : decode cX8_same 80 = .ok (.iaload, 1) := by decide +kernel
theorem dX8_same_81 : decode cX8_same 81 = .ok (.if_icmp .ne 7, 3) := by decide +kernel
theorem dX8_same_84 : decode cX8_same 84 = .ok (.iconst 1, 1) := by decide +kernel
theorem dX8_same_85 : decode cX8_same 85 = .ok (.goto 4, 3) := by decide +kernel
theorem dX8_same_88 : decode cX8_same 88 = .ok (.iconst 0, 1) := by decide +kernel
theorem dX8_same_89 : decode cX8_same 89 = .ok (.istore_n 3, 1) := by decide +kernel
theorem dX8_same_90 : decode cX8_same 90 = .ok (.iinc 4 1, 3) := by decide +kernel
theorem dX8_same_93 : decode cX8_same 93 = .ok (.goto (-51), 3) := by decide +kernel
theorem dX8_same_96 : decode cX8_same 96 = .ok (.iload_n 3, 1) := by decide +kernel
theorem dX8_same_97 : decode cX8_same 97 = .ok (.ifCond .eq 7, 3) := by decide +kernel
theorem dX8_same_100 : decode cX8_same 100 = .ok (.iconst 1, 1) := by decide +kernel
theorem dX8_same_101 : decode cX8_same 101 = .ok (.goto 4, 3) := by decide +kernel
theorem dX8_same_104 : decode cX8_same 104 = .ok (.iconst 0, 1) := by decide +kernel
theorem dX8_same_105 : decode cX8_same 105 = .ok (.ireturn, 1) := by decide +kernel
set_option maxRecDepth 20000 in
theorem ggX8_many_X8_here : GoodIn wsX8_many wsX8_here := goodIn_r _ [10, 3, 11, 12, 13, 14, 15, 16, 17, 18, 19, 20, 21, 22, 23, 24, 25, 26, 27, 28, 29, 30, 31, 32, 33, 34, 35, 36, 37, 38, 39, 40] (by decide +kernel) (by decide +kernel)
set_option maxRecDepth 20000 in
theorem gX8_many_X8_here : GoodIn wsX8_many (wsV RX8 146 RX8 yX8_here wsX8_here) := goodIn_app (goodIn_of _ (by decide +kernel)) ggX8_many_X8_here
theorem dX8_many_0 : decode cX8_many 0 = .ok (.iload_n 1, 1) := by decide +kernel
theorem dX8_many_1 : decode cX8_many 1 = .ok (.tableswitch 69 0 5 #[39, 44, 49, 54, 59, 64], 39) := by decide +kernel
theorem dX8_many_40 : decode cX8_many 40 = .ok (.aload_n 0, 1) := by decide +kernel
theorem dX8_many_41 : decode cX8_many 41 = .ok (.getfield 78, 3) := by decide +kernel
theorem dX8_many_44 : decode cX8_many 44 = .ok (.ireturn, 1) := by decide +kernel
theorem dX8_many_45 : decode cX8_many 45 = .ok (.aload_n 0, 1) := by decide +kernel
theorem dX8_many_46 : decode cX8_many 46 = .ok (.getfield 89, 3) := by decide +kernel
theorem dX8_many_49 : decode cX8_many 49 = .ok (.ireturn, 1) := by decide +kernel
theorem dX8_many_50 : decode cX8_many 50 = .ok (.aload_n 0, 1) := by decide +kernel
theorem dX8_many_51 : decode cX8_many 51 = .ok (.getfield 143, 3) := by decide +kernel
theorem dX8_many_54 : decode cX8_many 54 = .ok (.ireturn, 1) := by decide +kernel
theorem dX8_many_55 : decode cX8_many 55 = .ok (.aload_n 0, 1) := by decide +kernel
theorem dX8_many_56 : decode cX8_many 56 = .ok (.getfield 160, 3) := by decide +kernel
theorem dX8_many_59 : decode cX8_many 59 = .ok (.ireturn, 1) := by decide +kernel
theorem dX8_many_60 : decode cX8_many 60 = .ok (.aload_n 0, 1) := by decide +kernel
theorem dX8_many_61 : decode cX8_many 61 = .ok (.invokevirtual 146, 3) := by decide +kernel
theorem dX8_many_64 : decode cX8_many 64 = .ok (.ireturn, 1) := by decide +kernel
theorem dX8_many_65 : decode cX8_many 65 = .ok (.aload_n 0, 1) := by decide +kernel
theorem dX8_many_66 : decode cX8_many 66 = .ok (.getfield 16, 3) := by decide +kernel
theorem dX8_many_69 : decode cX8_many 69 = .ok (.ireturn, 1) := by decide +kernel
theorem dX8_many_70 : decode cX8_many 70 = .ok (.bipush (-2), 2) := by decide +kernel
theorem dX8_many_72 : decode cX8_many 72 = .ok (.ireturn, 1) := by decide +kernel
