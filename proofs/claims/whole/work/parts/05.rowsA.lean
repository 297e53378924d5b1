theorem dX0_init_0 : decode cX0_init 0 = .ok (.aload_n 0, 1) := by decide +kernel
theorem dX0_init_1 : decode cX0_init 1 = .ok (.invokespecial 3, 3) := by decide +kernel
theorem dX0_init_4 : decode cX0_init 4 = .ok (.aload_n 0, 1) := by decide +kernel
theorem dX0_init_5 : decode cX0_init 5 = .ok (.bipush 30, 2) := by decide +kernel
theorem dX0_init_7 : decode cX0_init 7 = .ok (.newarray .int, 2) := by decide +kernel
theorem dX0_init_9 : decode cX0_init 9 = .ok (.putfield 9, 3) := by decide +kernel
theorem dX0_init_12 : decode cX0_init 12 = .ok (.return_, 1) := by decide +kernel
theorem dX0_here_0 : decode cX0_here 0 = .ok (.aload_n 0, 1) := by decide +kernel
theorem dX0_here_1 : decode cX0_here 1 = .ok (.getfield 15, 3) := by decide +kernel
theorem dX0_here_4 : decode cX0_here 4 = .ok (.ifCond .le 22, 3) := by decide +kernel
theorem dX0_here_7 : decode cX0_here 7 = .ok (.aload_n 1, 1) := by decide +kernel
theorem dX0_here_8 : decode cX0_here 8 = .ok (.getfield 19, 3) := by decide +kernel
theorem dX0_here_11 : decode cX0_here 11 = .ok (.aload_n 0, 1) := by decide +kernel
theorem dX0_here_12 : decode cX0_here 12 = .ok (.getfield 9, 3) := by decide +kernel
theorem dX0_here_15 : decode cX0_here 15 = .ok (.aload_n 0, 1) := by decide +kernel
theorem dX0_here_16 : decode cX0_here 16 = .ok (.getfield 15, 3) := by decide +kernel
theorem dX0_here_19 : decode cX0_here 19 = .ok (.iconst 1, 1) := by decide +kernel
theorem dX0_here_20 : decode cX0_here 20 = .ok (.isub, 1) := by decide +kernel
theorem dX0_here_21 : decode cX0_here 21 = .ok (.iaload, 1) := by decide +kernel
theorem dX0_here_22 : decode cX0_here 22 = .ok (.iaload, 1) := by decide +kernel
theorem dX0_here_23 : decode cX0_here 23 = .ok (.goto 4, 3) := by decide +kernel
theorem dX0_here_26 : decode cX0_here 26 = .ok (.iconst 0, 1) := by decide +kernel
theorem dX0_here_27 : decode cX0_here 27 = .ok (.ireturn, 1) := by decide +kernel
theorem dX1_init_0 : decode cX1_init 0 = .ok (.aload_n 0, 1) := by decide +kernel
theorem dX1_init_1 : decode cX1_init 1 = .ok (.invokespecial 3, 3) := by decide +kernel
theorem dX1_init_4 : decode cX1_init 4 = .ok (.aload_n 0, 1) := by decide +kernel
theorem dX1_init_5 : decode cX1_init 5 = .ok (.bipush 24, 2) := by decide +kernel
theorem dX1_init_7 : decode cX1_init 7 = .ok (.newarray .int, 2) := by decide +kernel
theorem dX1_init_9 : decode cX1_init 9 = .ok (.putfield 9, 3) := by decide +kernel
theorem dX1_init_12 : decode cX1_init 12 = .ok (.aload_n 0, 1) := by decide +kernel
theorem dX1_init_13 : decode cX1_init 13 = .ok (.bipush 24, 2) := by decide +kernel
theorem dX1_init_15 : decode cX1_init 15 = .ok (.newarray .int, 2) := by decide +kernel
theorem dX1_init_17 : decode cX1_init 17 = .ok (.putfield 15, 3) := by decide +kernel
theorem dX1_init_20 : decode cX1_init 20 = .ok (.return_, 1) := by decide +kernel
theorem dX2_init_0 : decode cX2_init 0 = .ok (.aload_n 0, 1) := by decide +kernel
theorem dX2_init_1 : decode cX2_init 1 = .ok (.invokespecial 3, 3) := by decide +kernel
theorem dX2_init_4 : decode cX2_init 4 = .ok (.aload_n 0, 1) := by decide +kernel
theorem dX2_init_5 : decode cX2_init 5 = .ok (.bipush 31, 2) := by decide +kernel
theorem dX2_init_7 : decode cX2_init 7 = .ok (.newarray .int, 2) := by decide +kernel
theorem dX2_init_9 : decode cX2_init 9 = .ok (.putfield 9, 3) := by decide +kernel
theorem dX2_init_12 : decode cX2_init 12 = .ok (.aload_n 0, 1) := by decide +kernel
theorem dX2_init_13 : decode cX2_init 13 = .ok (.bipush 31, 2) := by decide +kernel
theorem dX2_init_15 : decode cX2_init 15 = .ok (.newarray .int, 2) := by decide +kernel
theorem dX2_init_17 : decode cX2_init 17 = .ok (.putfield 15, 3) := by decide +kernel
theorem dX2_init_20 : decode cX2_init 20 = .ok (.aload_n 0, 1) := by decide +kernel
theorem dX2_init_21 : decode cX2_init 21 = .ok (.bipush 31, 2) := by decide +kernel
theorem dX2_init_23 : decode cX2_init 23 = .ok (.newarray .int, 2) := by decide +kernel
theorem dX2_init_25 : decode cX2_init 25 = .ok (.putfield 18, 3) := by decide +kernel
theorem dX2_init_28 : decode cX2_init 28 = .ok (.return_, 1) := by decide +kernel
set_option maxRecDepth 20000 in
theorem ggX2_write_X2_begin : GoodIn wsX2_write wsX2_begin := goodIn_r _ [8, 1, 9, 2, 3, 13, 14, 15, 16] (by decide +kernel) (by decide +kernel)
set_option maxRecDepth 20000 in
theorem gX2_write_X2_begin : GoodIn wsX2_write (wsV RX2 25 RX2 yX2_begin wsX2_begin) := goodIn_app (goodIn_of _ (by decide +kernel)) ggX2_write_X2_begin
set_option maxRecDepth 20000 in
theorem ggX2_write_X7_has : GoodIn wsX2_write wsX7_has := goodIn_r _ [12] (by decide +kernel) (by decide +kernel)
set_option maxRecDepth 20000 in
theorem gX2_write_X7_has_n40 : GoodIn wsX2_write (wsX7_has) := ggX2_write_X7_has
theorem dX2_write_0 : decode cX2_write 0 = .ok (.aload_n 0, 1) := by decide +kernel
theorem dX2_write_1 : decode cX2_write 1 = .ok (.iconst 0, 1) := by decide +kernel
theorem dX2_write_2 : decode cX2_write 2 = .ok (.putfield 21, 3) := by decide +kernel
theorem dX2_write_5 : decode cX2_write 5 = .ok (.aload_n 0, 1) := by decide +kernel
theorem dX2_write_6 : decode cX2_write 6 = .ok (.iconst 0, 1) := by decide +kernel
theorem dX2_write_7 : decode cX2_write 7 = .ok (.invokevirtual 25, 3) := by decide +kernel
theorem dX2_write_10 : decode cX2_write 10 = .ok (.iconst 0, 1) := by decide +kernel
theorem dX2_write_11 : decode cX2_write 11 = .ok (.istore 4, 2) := by decide +kernel
theorem dX2_write_13 : decode cX2_write 13 = .ok (.iload 4, 2) := by decide +kernel
theorem dX2_write_15 : decode cX2_write 15 = .ok (.aload_n 3, 1) := by decide +kernel
theorem dX2_write_16 : decode cX2_write 16 = .ok (.getfield 29, 3) := by decide +kernel
theorem dX2_write_19 : decode cX2_write 19 = .ok (.if_icmp .ge 78, 3) := by decide +kernel
theorem dX2_write_22 : decode cX2_write 22 = .ok (.aload_n 3, 1) := by decide +kernel
theorem dX2_write_23 : decode cX2_write 23 = .ok (.getfield 32, 3) := by decide +kernel
theorem dX2_write_26 : decode cX2_write 26 = .ok (.iload 4, 2) := by decide +kernel
theorem dX2_write_28 : decode cX2_write 28 = .ok (.iaload, 1) := by decide +kernel
theorem dX2_write_29 : decode cX2_write 29 = .ok (.istore 5, 2) := by decide +kernel
theorem dX2_write_31 : decode cX2_write 31 = .ok (.aload_n 1, 1) := by decide +kernel
theorem dX2_write_32 : decode cX2_write 32 = .ok (.getfield 35, 3) := by decide +kernel
theorem dX2_write_35 : decode cX2_write 35 = .ok (.iload 5, 2) := by decide +kernel
theorem dX2_write_37 : decode cX2_write 37 = .ok (.invokestatic 40, 3) := by decide +kernel
theorem dX2_write_40 : decode cX2_write 40 = .ok (.ifCond .eq 27, 3) := by decide +kernel
theorem dX2_write_43 : decode cX2_write 43 = .ok (.aload_n 0, 1) := by decide +kernel
theorem dX2_write_44 : decode cX2_write 44 = .ok (.getfield 15, 3) := by decide +kernel
theorem dX2_write_47 : decode cX2_write 47 = .ok (.aload_n 0, 1) := by decide +kernel
theorem dX2_write_48 : decode cX2_write 48 = .ok (.getfield 21, 3) := by decide +kernel
theorem dX2_write_51 : decode cX2_write 51 = .ok (.iconst 1, 1) := by decide +kernel
theorem dX2_write_52 : decode cX2_write 52 = .ok (.isub, 1) := by decide +kernel
theorem dX2_write_53 : decode cX2_write 53 = .ok (.dup2, 1) := by decide +kernel
theorem dX2_write_54 : decode cX2_write 54 = .ok (.iaload, 1) := by decide +kernel
theorem dX2_write_55 : decode cX2_write 55 = .ok (.aload_n 1, 1) := by decide +kernel
theorem dX2_write_56 : decode cX2_write 56 = .ok (.getfield 44, 3) := by decide +kernel
theorem dX2_write_59 : decode cX2_write 59 = .ok (.iload 5, 2) := by decide +kernel
theorem dX2_write_61 : decode cX2_write 61 = .ok (.iaload, 1) := by decide +kernel
theorem dX2_write_62 : decode cX2_write 62 = .ok (.iadd, 1) := by decide +kernel
theorem dX2_write_63 : decode cX2_write 63 = .ok (.iastore, 1) := by decide +kernel
theorem dX2_write_64 : decode cX2_write 64 = .ok (.goto 27, 3) := by decide +kernel
theorem dX2_write_67 : decode cX2_write 67 = .ok (.aload_n 0, 1) := by decide +kernel
theorem dX2_write_68 : decode cX2_write 68 = .ok (.getfield 18, 3) := by decide +kernel
theorem dX2_write_71 : decode cX2_write 71 = .ok (.aload_n 0, 1) := by decide +kernel
theorem dX2_write_72 : decode cX2_write 72 = .ok (.getfield 21, 3) := by decide +kernel
theorem dX2_write_75 : decode cX2_write 75 = .ok (.iconst 1, 1) := by decide +kernel
theorem dX2_write_76 : decode cX2_write 76 = .ok (.isub, 1) := by decide +kernel
theorem dX2_write_77 : decode cX2_write 77 = .ok (.iload 5, 2) := by decide +kernel
theorem dX2_write_79 : decode cX2_write 79 = .ok (.iastore, 1) := by decide +kernel
theorem dX2_write_80 : decode cX2_write 80 = .ok (.aload_n 0, 1) := by decide +kernel
theorem dX2_write_81 : decode cX2_write 81 = .ok (.aload_n 2, 1) := by decide +kernel
theorem dX2_write_82 : decode cX2_write 82 = .ok (.getfield 47, 3) := by decide +kernel
theorem dX2_write_85 : decode cX2_write 85 = .ok (.iload 5, 2) := by decide +kernel
theorem dX2_write_87 : decode cX2_write 87 = .ok (.iaload, 1) := by decide +kernel
theorem dX2_write_88 : decode cX2_write 88 = .ok (.invokevirtual 25, 3) := by decide +kernel
theorem dX2_write_91 : decode cX2_write 91 = .ok (.iinc 4 1, 3) := by decide +kernel
theorem dX2_write_94 : decode cX2_write 94 = .ok (.goto (-81), 3) := by decide +kernel
theorem dX2_write_97 : decode cX2_write 97 = .ok (.return_, 1) := by decide +kernel
theorem dX2_begin_0 : decode cX2_begin 0 = .ok (.aload_n 0, 1) := by decide +kernel
theorem dX2_begin_1 : decode cX2_begin 1 = .ok (.getfield 21, 3) := by decide +kernel
theorem dX2_begin_4 : decode cX2_begin 4 = .ok (.bipush 30, 2) := by decide +kernel
theorem dX2_begin_6 : decode cX2_begin 6 = .ok (.if_icmp .gt 44, 3) := by decide +kernel
theorem dX2_begin_9 : decode cX2_begin 9 = .ok (.aload_n 0, 1) := by decide +kernel
theorem dX2_begin_10 : decode cX2_begin 10 = .ok (.getfield 9, 3) := by decide +kernel
theorem dX2_begin_13 : decode cX2_begin 13 = .ok (.aload_n 0, 1) := by decide +kernel
theorem dX2_begin_14 : decode cX2_begin 14 = .ok (.getfield 21, 3) := by decide +kernel
theorem dX2_begin_17 : decode cX2_begin 17 = .ok (.iload_n 1, 1) := by decide +kernel
theorem dX2_begin_18 : decode cX2_begin 18 = .ok (.iastore, 1) := by decide +kernel
theorem dX2_begin_19 : decode cX2_begin 19 = .ok (.aload_n 0, 1) := by decide +kernel
theorem dX2_begin_20 : decode cX2_begin 20 = .ok (.getfield 15, 3) := by decide +kernel
theorem dX2_begin_23 : decode cX2_begin 23 = .ok (.aload_n 0, 1) := by decide +kernel
theorem dX2_begin_24 : decode cX2_begin 24 = .ok (.getfield 21, 3) := by decide +kernel
theorem dX2_begin_27 : decode cX2_begin 27 = .ok (.iconst 0, 1) := by decide +kernel
theorem dX2_begin_28 : decode cX2_begin 28 = .ok (.iastore, 1) := by decide +kernel
theorem dX2_begin_29 : decode cX2_begin 29 = .ok (.aload_n 0, 1) := by decide +kernel
theorem dX2_begin_30 : decode cX2_begin 30 = .ok (.getfield 18, 3) := by decide +kernel
theorem dX2_begin_33 : decode cX2_begin 33 = .ok (.aload_n 0, 1) := by decide +kernel
theorem dX2_begin_34 : decode cX2_begin 34 = .ok (.getfield 21, 3) := by decide +kernel
theorem dX2_begin_37 : decode cX2_begin 37 = .ok (.bipush (-9), 2) := by decide +kernel
theorem dX2_begin_39 : decode cX2_begin 39 = .ok (.iastore, 1) := by decide +kernel
theorem dX2_begin_40 : decode cX2_begin 40 = .ok (.aload_n 0, 1) := by decide +kernel
theorem dX2_begin_41 : decode cX2_begin 41 = .ok (.dup, 1) := by decide +kernel
theorem dX2_begin_42 : decode cX2_begin 42 = .ok (.getfield 21, 3) := by decide +kernel
theorem dX2_begin_45 : decode cX2_begin 45 = .ok (.iconst 1, 1) := by decide +kernel
theorem dX2_begin_46 : decode cX2_begin 46 = .ok (.iadd, 1) := by decide +kernel
theorem dX2_begin_47 : decode cX2_begin 47 = .ok (.putfield 21, 3) := by decide +kernel
theorem dX2_begin_50 : decode cX2_begin 50 = .ok (.return_, 1) := by decide +kernel
theorem dX2_lastNumber_0 : decode cX2_lastNumber 0 = .ok (.aload_n 0, 1) := by decide +kernel
theorem dX2_lastNumber_1 : decode cX2_lastNumber 1 = .ok (.getfield 21, 3) := by decide +kernel
theorem dX2_lastNumber_4 : decode cX2_lastNumber 4 = .ok (.ifCond .le 17, 3) := by decide +kernel
theorem dX2_lastNumber_7 : decode cX2_lastNumber 7 = .ok (.aload_n 0, 1) := by decide +kernel
theorem dX2_lastNumber_8 : decode cX2_lastNumber 8 = .ok (.getfield 15, 3) := by decide +kernel
theorem dX2_lastNumber_11 : decode cX2_lastNumber 11 = .ok (.aload_n 0, 1) := by decide +kernel
theorem dX2_lastNumber_12 : decode cX2_lastNumber 12 = .ok (.getfield 21, 3) := by decide +kernel
theorem dX2_lastNumber_15 : decode cX2_lastNumber 15 = .ok (.iconst 1, 1) := by decide +kernel
theorem dX2_lastNumber_16 : decode cX2_lastNumber 16 = .ok (.isub, 1) := by decide +kernel
theorem dX2_lastNumber_17 : decode cX2_lastNumber 17 = .ok (.iaload, 1) := by decide +kernel
theorem dX2_lastNumber_18 : decode cX2_lastNumber 18 = .ok (.goto 4, 3) := by decide +kernel
theorem dX2_lastNumber_21 : decode cX2_lastNumber 21 = .ok (.iconst 0, 1) := by decide +kernel
theorem dX2_lastNumber_22 : decode cX2_lastNumber 22 = .ok (.ireturn, 1) := by decide +kernel
theorem dX3_init_0 : decode cX3_init 0 = .ok (.aload_n 0, 1) := by decide +kernel
theorem dX3_init_1 : decode cX3_init 1 = .ok (.invokespecial 3, 3) := by decide +kernel
theorem dX3_init_4 : decode cX3_init 4 = .ok (.aload_n 0, 1) := by decide +kernel
theorem dX3_init_5 : decode cX3_init 5 = .ok (.bipush 10, 2) := by decide +kernel
theorem dX3_init_7 : decode cX3_init 7 = .ok (.newarray .int, 2) := by decide +kernel
theorem dX3_init_9 : decode cX3_init 9 = .ok (.putfield 9, 3) := by decide +kernel
theorem dX3_init_12 : decode cX3_init 12 = .ok (.return_, 1) := by decide +kernel
set_option maxRecDepth 20000 in
theorem ggX3_read_X3_lastCall : GoodIn wsX3_read wsX3_lastCall := goodIn_r _ [6, 7, 8, 9, 12, 13, 14, 15, 16, 17, 18, 19, 20, 21] (by decide +kernel) (by decide +kernel)
set_option maxRecDepth 20000 in
theorem gX3_read_X3_lastCall : GoodIn wsX3_read (va_wsS RX3 19 yX3_lastCall wsX3_lastCall) := goodIn_app (goodIn_of _ (by decide +kernel)) ggX3_read_X3_lastCall
theorem dX3_read_0 : decode cX3_read 0 = .ok (.aload_n 0, 1) := by decide +kernel
theorem dX3_read_1 : decode cX3_read 1 = .ok (.iconst 0, 1) := by decide +kernel
theorem dX3_read_2 : decode cX3_read 2 = .ok (.putfield 15, 3) := by decide +kernel
theorem dX3_read_5 : decode cX3_read 5 = .ok (.iload 4, 2) := by decide +kernel
theorem dX3_read_7 : decode cX3_read 7 = .ok (.istore 6, 2) := by decide +kernel
theorem dX3_read_9 : decode cX3_read 9 = .ok (.iload 5, 2) := by decide +kernel
theorem dX3_read_11 : decode cX3_read 11 = .ok (.istore 7, 2) := by decide +kernel
theorem dX3_read_13 : decode cX3_read 13 = .ok (.iconst 0, 1) := by decide +kernel
theorem dX3_read_14 : decode cX3_read 14 = .ok (.istore 8, 2) := by decide +kernel
theorem dX3_read_16 : decode cX3_read 16 = .ok (.iload 8, 2) := by decide +kernel
theorem dX3_read_18 : decode cX3_read 18 = .ok (.bipush 10, 2) := by decide +kernel
theorem dX3_read_20 : decode cX3_read 20 = .ok (.if_icmp .ge 84, 3) := by decide +kernel
theorem dX3_read_23 : decode cX3_read 23 = .ok (.iload 6, 2) := by decide +kernel
theorem dX3_read_25 : decode cX3_read 25 = .ok (.iload_n 3, 1) := by decide +kernel
theorem dX3_read_26 : decode cX3_read 26 = .ok (.if_icmp .ne 14, 3) := by decide +kernel
theorem dX3_read_29 : decode cX3_read 29 = .ok (.iload 7, 2) := by decide +kernel
theorem dX3_read_31 : decode cX3_read 31 = .ok (.ifCond .ne 7, 3) := by decide +kernel
theorem dX3_read_34 : decode cX3_read 34 = .ok (.iconst 1, 1) := by decide +kernel
theorem dX3_read_35 : decode cX3_read 35 = .ok (.goto 4, 3) := by decide +kernel
theorem dX3_read_38 : decode cX3_read 38 = .ok (.iconst 0, 1) := by decide +kernel
theorem dX3_read_39 : decode cX3_read 39 = .ok (.ireturn, 1) := by decide +kernel
theorem dX3_read_40 : decode cX3_read 40 = .ok (.aload_n 1, 1) := by decide +kernel
theorem dX3_read_41 : decode cX3_read 41 = .ok (.aload_n 2, 1) := by decide +kernel
theorem dX3_read_42 : decode cX3_read 42 = .ok (.iload 6, 2) := by decide +kernel
theorem dX3_read_44 : decode cX3_read 44 = .ok (.iload 7, 2) := by decide +kernel
theorem dX3_read_46 : decode cX3_read 46 = .ok (.invokestatic 19, 3) := by decide +kernel
theorem dX3_read_49 : decode cX3_read 49 = .ok (.istore 9, 2) := by decide +kernel
theorem dX3_read_51 : decode cX3_read 51 = .ok (.iload 9, 2) := by decide +kernel
theorem dX3_read_53 : decode cX3_read 53 = .ok (.bipush (-9), 2) := by decide +kernel
theorem dX3_read_55 : decode cX3_read 55 = .ok (.if_icmp .ne 5, 3) := by decide +kernel
theorem dX3_read_58 : decode cX3_read 58 = .ok (.iconst 0, 1) := by decide +kernel
theorem dX3_read_59 : decode cX3_read 59 = .ok (.ireturn, 1) := by decide +kernel
theorem dX3_read_60 : decode cX3_read 60 = .ok (.aload_n 0, 1) := by decide +kernel
theorem dX3_read_61 : decode cX3_read 61 = .ok (.getfield 9, 3) := by decide +kernel
theorem dX3_read_64 : decode cX3_read 64 = .ok (.iload 8, 2) := by decide +kernel
theorem dX3_read_66 : decode cX3_read 66 = .ok (.iload 9, 2) := by decide +kernel
theorem dX3_read_68 : decode cX3_read 68 = .ok (.iastore, 1) := by decide +kernel
theorem dX3_read_69 : decode cX3_read 69 = .ok (.aload_n 0, 1) := by decide +kernel
theorem dX3_read_70 : decode cX3_read 70 = .ok (.iload 8, 2) := by decide +kernel
theorem dX3_read_72 : decode cX3_read 72 = .ok (.iconst 1, 1) := by decide +kernel
theorem dX3_read_73 : decode cX3_read 73 = .ok (.iadd, 1) := by decide +kernel
theorem dX3_read_74 : decode cX3_read 74 = .ok (.putfield 15, 3) := by decide +kernel
theorem dX3_read_77 : decode cX3_read 77 = .ok (.iload 7, 2) := by decide +kernel
theorem dX3_read_79 : decode cX3_read 79 = .ok (.aload_n 1, 1) := by decide +kernel
theorem dX3_read_80 : decode cX3_read 80 = .ok (.getfield 23, 3) := by decide +kernel
theorem dX3_read_83 : decode cX3_read 83 = .ok (.iload 9, 2) := by decide +kernel
theorem dX3_read_85 : decode cX3_read 85 = .ok (.iaload, 1) := by decide +kernel
theorem dX3_read_86 : decode cX3_read 86 = .ok (.isub, 1) := by decide +kernel
theorem dX3_read_87 : decode cX3_read 87 = .ok (.istore 7, 2) := by decide +kernel
theorem dX3_read_89 : decode cX3_read 89 = .ok (.aload_n 2, 1) := by decide +kernel
theorem dX3_read_90 : decode cX3_read 90 = .ok (.getfield 28, 3) := by decide +kernel
theorem dX3_read_93 : decode cX3_read 93 = .ok (.iload 9, 2) := by decide +kernel
theorem dX3_read_95 : decode cX3_read 95 = .ok (.iaload, 1) := by decide +kernel
theorem dX3_read_96 : decode cX3_read 96 = .ok (.istore 6, 2) := by decide +kernel
theorem dX3_read_98 : decode cX3_read 98 = .ok (.iinc 8 1, 3) := by decide +kernel
theorem dX3_read_101 : decode cX3_read 101 = .ok (.goto (-85), 3) := by decide +kernel
theorem dX3_read_104 : decode cX3_read 104 = .ok (.iconst 0, 1) := by decide +kernel
theorem dX3_read_105 : decode cX3_read 105 = .ok (.ireturn, 1) := by decide +kernel
set_option maxRecDepth 20000 in
theorem ggX3_lastCall_X7_has : GoodIn wsX3_lastCall wsX7_has := goodIn_r _ [3] (by decide +kernel) (by decide +kernel)
set_option maxRecDepth 20000 in
theorem gX3_lastCall_X7_has_n39 : GoodIn wsX3_lastCall (wsX7_has) := ggX3_lastCall_X7_has
theorem dX3_lastCall_0 : decode cX3_lastCall 0 = .ok (.iconst 0, 1) := by decide +kernel
theorem dX3_lastCall_1 : decode cX3_lastCall 1 = .ok (.istore 4, 2) := by decide +kernel
theorem dX3_lastCall_3 : decode cX3_lastCall 3 = .ok (.iload 4, 2) := by decide +kernel
theorem dX3_lastCall_5 : decode cX3_lastCall 5 = .ok (.aload_n 0, 1) := by decide +kernel
theorem dX3_lastCall_6 : decode cX3_lastCall 6 = .ok (.getfield 33, 3) := by decide +kernel
theorem dX3_lastCall_9 : decode cX3_lastCall 9 = .ok (.if_icmp .ge 68, 3) := by decide +kernel
theorem dX3_lastCall_12 : decode cX3_lastCall 12 = .ok (.aload_n 0, 1) := by decide +kernel
theorem dX3_lastCall_13 : decode cX3_lastCall 13 = .ok (.getfield 36, 3) := by decide +kernel
theorem dX3_lastCall_16 : decode cX3_lastCall 16 = .ok (.iload 4, 2) := by decide +kernel
theorem dX3_lastCall_18 : decode cX3_lastCall 18 = .ok (.invokestatic 39, 3) := by decide +kernel
theorem dX3_lastCall_21 : decode cX3_lastCall 21 = .ok (.ifCond .eq 50, 3) := by decide +kernel
theorem dX3_lastCall_24 : decode cX3_lastCall 24 = .ok (.aload_n 1, 1) := by decide +kernel
theorem dX3_lastCall_25 : decode cX3_lastCall 25 = .ok (.getfield 43, 3) := by decide +kernel
theorem dX3_lastCall_28 : decode cX3_lastCall 28 = .ok (.iload 4, 2) := by decide +kernel
theorem dX3_lastCall_30 : decode cX3_lastCall 30 = .ok (.iaload, 1) := by decide +kernel
theorem dX3_lastCall_31 : decode cX3_lastCall 31 = .ok (.iload_n 2, 1) := by decide +kernel
theorem dX3_lastCall_32 : decode cX3_lastCall 32 = .ok (.if_icmp .ne 39, 3) := by decide +kernel
theorem dX3_lastCall_35 : decode cX3_lastCall 35 = .ok (.iload_n 3, 1) := by decide +kernel
theorem dX3_lastCall_36 : decode cX3_lastCall 36 = .ok (.aload_n 0, 1) := by decide +kernel
theorem dX3_lastCall_37 : decode cX3_lastCall 37 = .ok (.getfield 23, 3) := by decide +kernel
theorem dX3_lastCall_40 : decode cX3_lastCall 40 = .ok (.iload 4, 2) := by decide +kernel
theorem dX3_lastCall_42 : decode cX3_lastCall 42 = .ok (.iaload, 1) := by decide +kernel
theorem dX3_lastCall_43 : decode cX3_lastCall 43 = .ok (.isub, 1) := by decide +kernel
theorem dX3_lastCall_44 : decode cX3_lastCall 44 = .ok (.istore 5, 2) := by decide +kernel
theorem dX3_lastCall_46 : decode cX3_lastCall 46 = .ok (.iload 5, 2) := by decide +kernel
theorem dX3_lastCall_48 : decode cX3_lastCall 48 = .ok (.ifCond .lt 23, 3) := by decide +kernel
theorem dX3_lastCall_51 : decode cX3_lastCall 51 = .ok (.iload 5, 2) := by decide +kernel
theorem dX3_lastCall_53 : decode cX3_lastCall 53 = .ok (.aload_n 0, 1) := by decide +kernel
theorem dX3_lastCall_54 : decode cX3_lastCall 54 = .ok (.getfield 46, 3) := by decide +kernel
theorem dX3_lastCall_57 : decode cX3_lastCall 57 = .ok (.aload_n 1, 1) := by decide +kernel
theorem dX3_lastCall_58 : decode cX3_lastCall 58 = .ok (.getfield 28, 3) := by decide +kernel
theorem dX3_lastCall_61 : decode cX3_lastCall 61 = .ok (.iload 4, 2) := by decide +kernel
theorem dX3_lastCall_63 : decode cX3_lastCall 63 = .ok (.iaload, 1) := by decide +kernel
theorem dX3_lastCall_64 : decode cX3_lastCall 64 = .ok (.iaload, 1) := by decide +kernel
theorem dX3_lastCall_65 : decode cX3_lastCall 65 = .ok (.if_icmp .ge 6, 3) := by decide +kernel
theorem dX3_lastCall_68 : decode cX3_lastCall 68 = .ok (.iload 4, 2) := by decide +kernel
theorem dX3_lastCall_70 : decode cX3_lastCall 70 = .ok (.ireturn, 1) := by decide +kernel
theorem dX3_lastCall_71 : decode cX3_lastCall 71 = .ok (.iinc 4 1, 3) := by decide +kernel
theorem dX3_lastCall_74 : decode cX3_lastCall 74 = .ok (.goto (-71), 3) := by decide +kernel
theorem dX3_lastCall_77 : decode cX3_lastCall 77 = .ok (.bipush (-9), 2) := by decide +kernel
theorem dX3_lastCall_79 : decode cX3_lastCall 79 = .ok (.ireturn, 1) := by decide +kernel
theorem dX3_nth_0 : decode cX3_nth 0 = .ok (.iload_n 1, 1) := by decide +kernel
theorem dX3_nth_1 : decode cX3_nth 1 = .ok (.ifCond .lt 36, 3) := by decide +kernel
theorem dX3_nth_4 : decode cX3_nth 4 = .ok (.iload_n 1, 1) := by decide +kernel
theorem dX3_nth_5 : decode cX3_nth 5 = .ok (.aload_n 0, 1) := by decide +kernel
theorem dX3_nth_6 : decode cX3_nth 6 = .ok (.getfield 15, 3) := by decide +kernel
theorem dX3_nth_9 : decode cX3_nth 9 = .ok (.if_icmp .ge 28, 3) := by decide +kernel
theorem dX3_nth_12 : decode cX3_nth 12 = .ok (.aload_n 0, 1) := by decide +kernel
theorem dX3_nth_13 : decode cX3_nth 13 = .ok (.getfield 15, 3) := by decide +kernel
theorem dX3_nth_16 : decode cX3_nth 16 = .ok (.bipush 10, 2) := by decide +kernel
theorem dX3_nth_18 : decode cX3_nth 18 = .ok (.if_icmp .gt 19, 3) := by decide +kernel
theorem dX3_nth_21 : decode cX3_nth 21 = .ok (.aload_n 0, 1) := by decide +kernel
theorem dX3_nth_22 : decode cX3_nth 22 = .ok (.getfield 9, 3) := by decide +kernel
theorem dX3_nth_25 : decode cX3_nth 25 = .ok (.aload_n 0, 1) := by decide +kernel
theorem dX3_nth_26 : decode cX3_nth 26 = .ok (.getfield 15, 3) := by decide +kernel
theorem dX3_nth_29 : decode cX3_nth 29 = .ok (.iconst 1, 1) := by decide +kernel
theorem dX3_nth_30 : decode cX3_nth 30 = .ok (.isub, 1) := by decide +kernel
theorem dX3_nth_31 : decode cX3_nth 31 = .ok (.iload_n 1, 1) := by decide +kernel
theorem dX3_nth_32 : decode cX3_nth 32 = .ok (.isub, 1) := by decide +kernel
theorem dX3_nth_33 : decode cX3_nth 33 = .ok (.iaload, 1) := by decide +kernel
theorem dX3_nth_34 : decode cX3_nth 34 = .ok (.goto 5, 3) := by decide +kernel
theorem dX3_nth_37 : decode cX3_nth 37 = .ok (.bipush (-9), 2) := by decide +kernel
theorem dX3_nth_39 : decode cX3_nth 39 = .ok (.ireturn, 1) := by decide +kernel
theorem dX4_init_0 : decode cX4_init 0 = .ok (.aload_n 0, 1) := by decide +kernel
theorem dX4_init_1 : decode cX4_init 1 = .ok (.invokespecial 3, 3) := by decide +kernel
theorem dX4_init_4 : decode cX4_init 4 = .ok (.aload_n 0, 1) := by decide +kernel
theorem dX4_init_5 : decode cX4_init 5 = .ok (.bipush 10, 2) := by decide +kernel
theorem dX4_init_7 : decode cX4_init 7 = .ok (.newarray .int, 2) := by decide +kernel
theorem dX4_init_9 : decode cX4_init 9 = .ok (.putfield 9, 3) := by decide +kernel
theorem dX4_init_12 : decode cX4_init 12 = .ok (.aload_n 0, 1) := by decide +kernel
theorem dX4_init_13 : decode cX4_init 13 = .ok (.bipush 24, 2) := by decide +kernel
theorem dX4_init_15 : decode cX4_init 15 = .ok (.newarray .int, 2) := by decide +kernel
theorem dX4_init_17 : decode cX4_init 17 = .ok (.putfield 15, 3) := by decide +kernel
theorem dX4_init_20 : decode cX4_init 20 = .ok (.return_, 1) := by decide +kernel
set_option maxRecDepth 20000 in
theorem ggX4_draw_X6_init : GoodIn wsX4_draw wsX6_init := goodIn_r _ [11, 12, 13, 14, 15, 16, 49, 50, 51, 52, 53] (by decide +kernel) (by decide +kernel)
set_option maxRecDepth 20000 in
theorem gX4_draw_X6_init_n20 : GoodIn wsX4_draw (wsX6_init) := ggX4_draw_X6_init
set_option maxRecDepth 20000 in
theorem ggX4_draw_X6_goThrough : GoodIn wsX4_draw wsX6_goThrough := goodIn_r _ [18, 19, 20, 21, 22, 23, 24, 25, 26, 17, 3, 27, 28, 29, 30, 16, 49, 50, 51, 52, 53, 54, 55, 56] (by decide +kernel) (by decide +kernel)
set_option maxRecDepth 20000 in
theorem gX4_draw_X6_goThrough_n21 : GoodIn wsX4_draw (wsX6_goThrough) := ggX4_draw_X6_goThrough
set_option maxRecDepth 20000 in
theorem ggX4_draw_J7_fill_53178 : GoodIn wsX4_draw wsJ7_fill_53178 := goodIn_r _ [34] (by decide +kernel) (by decide +kernel)
set_option maxRecDepth 20000 in
theorem gX4_draw_J7_fill_53178 : GoodIn wsX4_draw (va_wsS RX4 42 yJ7_fill_53178 wsJ7_fill_53178) := goodIn_app (goodIn_of _ (by decide +kernel)) ggX4_draw_J7_fill_53178
set_option maxRecDepth 20000 in
theorem ggX4_draw_X4_weigh : GoodIn wsX4_draw wsX4_weigh := goodIn_r _ [39, 4, 5, 6, 7, 40, 23, 24, 25, 57, 58, 59, 60, 61, 62, 63, 54, 55, 56] (by decide +kernel) (by decide +kernel)
set_option maxRecDepth 20000 in
theorem gX4_draw_X4_weigh : GoodIn wsX4_draw (wsV RX4 54 RX4 yX4_weigh wsX4_weigh) := goodIn_app (goodIn_of _ (by decide +kernel)) ggX4_draw_X4_weigh
set_option maxRecDepth 20000 in
theorem ggX4_draw_X4_kindOf : GoodIn wsX4_draw wsX4_kindOf := goodIn_r _ [44, 6, 4, 5, 40, 23, 24, 25, 57, 58, 59, 60, 61, 62, 63, 54, 55, 56] (by decide +kernel) (by decide +kernel)
set_option maxRecDepth 20000 in
theorem gX4_draw_X4_kindOf : GoodIn wsX4_draw (wsV RX4 58 RX4 yX4_kindOf wsX4_kindOf) := goodIn_app (goodIn_of _ (by decide +kernel)) ggX4_draw_X4_kindOf
set_option maxRecDepth 20000 in
theorem ggX4_draw_X4_waysOfPlainCallsTo : GoodIn wsX4_draw wsX4_waysOfPlainCallsTo := goodIn_r _ [48, 4, 9, 7, 23, 24, 25, 57, 58, 59, 60, 61, 62, 63, 54, 55, 56] (by decide +kernel) (by decide +kernel)
set_option maxRecDepth 20000 in
theorem gX4_draw_X4_waysOfPlainCallsTo : GoodIn wsX4_draw (wsV RX4 65 RX4 yX4_waysOfPlainCallsTo wsX4_waysOfPlainCallsTo) := goodIn_app (goodIn_of _ (by decide +kernel)) ggX4_draw_X4_waysOfPlainCallsTo
theorem dX4_draw_0 : decode cX4_draw 0 = .ok (.new 18, 3) := by decide +kernel
theorem dX4_draw_3 : decode cX4_draw 3 = .ok (.dup, 1) := by decide +kernel
theorem dX4_draw_4 : decode cX4_draw 4 = .ok (.invokespecial 20, 3) := by decide +kernel
theorem dX4_draw_7 : decode cX4_draw 7 = .ok (.astore_n 3, 1) := by decide +kernel
theorem dX4_draw_8 : decode cX4_draw 8 = .ok (.aload_n 3, 1) := by decide +kernel
theorem dX4_draw_9 : decode cX4_draw 9 = .ok (.aload_n 1, 1) := by decide +kernel
theorem dX4_draw_10 : decode cX4_draw 10 = .ok (.iconst 0, 1) := by decide +kernel
theorem dX4_draw_11 : decode cX4_draw 11 = .ok (.iconst 0, 1) := by decide +kernel
theorem dX4_draw_12 : decode cX4_draw 12 = .ok (.invokestatic 21, 3) := by decide +kernel
theorem dX4_draw_15 : decode cX4_draw 15 = .ok (.aload_n 0, 1) := by decide +kernel
theorem dX4_draw_16 : decode cX4_draw 16 = .ok (.aload_n 1, 1) := by decide +kernel
theorem dX4_draw_17 : decode cX4_draw 17 = .ok (.getfield 25, 3) := by decide +kernel
theorem dX4_draw_20 : decode cX4_draw 20 = .ok (.putfield 31, 3) := by decide +kernel
theorem dX4_draw_23 : decode cX4_draw 23 = .ok (.aload_n 0, 1) := by decide +kernel
theorem dX4_draw_24 : decode cX4_draw 24 = .ok (.aload_n 3, 1) := by decide +kernel
theorem dX4_draw_25 : decode cX4_draw 25 = .ok (.getfield 34, 3) := by decide +kernel
theorem dX4_draw_28 : decode cX4_draw 28 = .ok (.putfield 37, 3) := by decide +kernel
theorem dX4_draw_31 : decode cX4_draw 31 = .ok (.aload_n 0, 1) := by decide +kernel
theorem dX4_draw_32 : decode cX4_draw 32 = .ok (.aload_n 3, 1) := by decide +kernel
theorem dX4_draw_33 : decode cX4_draw 33 = .ok (.getfield 38, 3) := by decide +kernel
theorem dX4_draw_36 : decode cX4_draw 36 = .ok (.putfield 41, 3) := by decide +kernel
theorem dX4_draw_39 : decode cX4_draw 39 = .ok (.aload_n 0, 1) := by decide +kernel
theorem dX4_draw_40 : decode cX4_draw 40 = .ok (.getfield 9, 3) := by decide +kernel
theorem dX4_draw_43 : decode cX4_draw 43 = .ok (.iconst 1, 1) := by decide +kernel
theorem dX4_draw_44 : decode cX4_draw 44 = .ok (.invokestatic 42, 3) := by decide +kernel
theorem dX4_draw_47 : decode cX4_draw 47 = .ok (.aload_n 3, 1) := by decide +kernel
theorem dX4_draw_48 : decode cX4_draw 48 = .ok (.getfield 48, 3) := by decide +kernel
theorem dX4_draw_51 : decode cX4_draw 51 = .ok (.iconst 1, 1) := by decide +kernel
theorem dX4_draw_52 : decode cX4_draw 52 = .ok (.isub, 1) := by decide +kernel
theorem dX4_draw_53 : decode cX4_draw 53 = .ok (.istore 4, 2) := by decide +kernel
theorem dX4_draw_55 : decode cX4_draw 55 = .ok (.iload 4, 2) := by decide +kernel
theorem dX4_draw_57 : decode cX4_draw 57 = .ok (.ifCond .lt 22, 3) := by decide +kernel
theorem dX4_draw_60 : decode cX4_draw 60 = .ok (.aload_n 0, 1) := by decide +kernel
theorem dX4_draw_61 : decode cX4_draw 61 = .ok (.aload_n 1, 1) := by decide +kernel
theorem dX4_draw_62 : decode cX4_draw 62 = .ok (.aload_n 3, 1) := by decide +kernel
theorem dX4_draw_63 : decode cX4_draw 63 = .ok (.getfield 51, 3) := by decide +kernel
theorem dX4_draw_66 : decode cX4_draw 66 = .ok (.iload 4, 2) := by decide +kernel
theorem dX4_draw_68 : decode cX4_draw 68 = .ok (.iaload, 1) := by decide +kernel
theorem dX4_draw_69 : decode cX4_draw 69 = .ok (.iload_n 2, 1) := by decide +kernel
theorem dX4_draw_70 : decode cX4_draw 70 = .ok (.invokevirtual 54, 3) := by decide +kernel
theorem dX4_draw_73 : decode cX4_draw 73 = .ok (.iinc 4 (-1), 3) := by decide +kernel
theorem dX4_draw_76 : decode cX4_draw 76 = .ok (.goto (-21), 3) := by decide +kernel
theorem dX4_draw_79 : decode cX4_draw 79 = .ok (.iconst 0, 1) := by decide +kernel
theorem dX4_draw_80 : decode cX4_draw 80 = .ok (.istore 4, 2) := by decide +kernel
theorem dX4_draw_82 : decode cX4_draw 82 = .ok (.iload 4, 2) := by decide +kernel
theorem dX4_draw_84 : decode cX4_draw 84 = .ok (.aload_n 0, 1) := by decide +kernel
theorem dX4_draw_85 : decode cX4_draw 85 = .ok (.getfield 31, 3) := by decide +kernel
theorem dX4_draw_88 : decode cX4_draw 88 = .ok (.if_icmp .ge 51, 3) := by decide +kernel
theorem dX4_draw_91 : decode cX4_draw 91 = .ok (.aload_n 0, 1) := by decide +kernel
theorem dX4_draw_92 : decode cX4_draw 92 = .ok (.aload_n 1, 1) := by decide +kernel
theorem dX4_draw_93 : decode cX4_draw 93 = .ok (.iload 4, 2) := by decide +kernel
theorem dX4_draw_95 : decode cX4_draw 95 = .ok (.invokevirtual 58, 3) := by decide +kernel
theorem dX4_draw_98 : decode cX4_draw 98 = .ok (.ifCond .ne 35, 3) := by decide +kernel
theorem dX4_draw_101 : decode cX4_draw 101 = .ok (.aload_n 0, 1) := by decide +kernel
theorem dX4_draw_102 : decode cX4_draw 102 = .ok (.getfield 15, 3) := by decide +kernel
theorem dX4_draw_105 : decode cX4_draw 105 = .ok (.iload 4, 2) := by decide +kernel
theorem dX4_draw_107 : decode cX4_draw 107 = .ok (.aload_n 0, 1) := by decide +kernel
theorem dX4_draw_108 : decode cX4_draw 108 = .ok (.aload_n 1, 1) := by decide +kernel
theorem dX4_draw_109 : decode cX4_draw 109 = .ok (.aload_n 1, 1) := by decide +kernel
theorem dX4_draw_110 : decode cX4_draw 110 = .ok (.getfield 62, 3) := by decide +kernel
theorem dX4_draw_113 : decode cX4_draw 113 = .ok (.iload 4, 2) := by decide +kernel
theorem dX4_draw_115 : decode cX4_draw 115 = .ok (.iaload, 1) := by decide +kernel
theorem dX4_draw_116 : decode cX4_draw 116 = .ok (.invokevirtual 65, 3) := by decide +kernel
theorem dX4_draw_119 : decode cX4_draw 119 = .ok (.iastore, 1) := by decide +kernel
theorem dX4_draw_120 : decode cX4_draw 120 = .ok (.aload_n 0, 1) := by decide +kernel
theorem dX4_draw_121 : decode cX4_draw 121 = .ok (.dup, 1) := by decide +kernel
theorem dX4_draw_122 : decode cX4_draw 122 = .ok (.getfield 68, 3) := by decide +kernel
theorem dX4_draw_125 : decode cX4_draw 125 = .ok (.iconst 1, 1) := by decide +kernel
theorem dX4_draw_126 : decode cX4_draw 126 = .ok (.iload 4, 2) := by decide +kernel
theorem dX4_draw_128 : decode cX4_draw 128 = .ok (.ishl, 1) := by decide +kernel
theorem dX4_draw_129 : decode cX4_draw 129 = .ok (.ior, 1) := by decide +kernel
theorem dX4_draw_130 : decode cX4_draw 130 = .ok (.putfield 68, 3) := by decide +kernel
theorem dX4_draw_133 : decode cX4_draw 133 = .ok (.iinc 4 1, 3) := by decide +kernel
theorem dX4_draw_136 : decode cX4_draw 136 = .ok (.goto (-54), 3) := by decide +kernel
theorem dX4_draw_139 : decode cX4_draw 139 = .ok (.return_, 1) := by decide +kernel
set_option maxRecDepth 20000 in
theorem ggX4_weigh_X7_has : GoodIn wsX4_weigh wsX7_has := goodIn_r _ [8] (by decide +kernel) (by decide +kernel)
set_option maxRecDepth 20000 in
theorem gX4_weigh_X7_has_n74 : GoodIn wsX4_weigh (wsX7_has) := ggX4_weigh_X7_has
theorem dX4_weigh_0 : decode cX4_weigh 0 = .ok (.iload_n 2, 1) := by decide +kernel
theorem dX4_weigh_1 : decode cX4_weigh 1 = .ok (.ifCond .ne 4, 3) := by decide +kernel
theorem dX4_weigh_4 : decode cX4_weigh 4 = .ok (.return_, 1) := by decide +kernel
theorem dX4_weigh_5 : decode cX4_weigh 5 = .ok (.iconst 0, 1) := by decide +kernel
theorem dX4_weigh_6 : decode cX4_weigh 6 = .ok (.istore 4, 2) := by decide +kernel
theorem dX4_weigh_8 : decode cX4_weigh 8 = .ok (.iconst 0, 1) := by decide +kernel
theorem dX4_weigh_9 : decode cX4_weigh 9 = .ok (.istore 5, 2) := by decide +kernel
theorem dX4_weigh_11 : decode cX4_weigh 11 = .ok (.iload 5, 2) := by decide +kernel
theorem dX4_weigh_13 : decode cX4_weigh 13 = .ok (.aload_n 0, 1) := by decide +kernel
theorem dX4_weigh_14 : decode cX4_weigh 14 = .ok (.getfield 31, 3) := by decide +kernel
theorem dX4_weigh_17 : decode cX4_weigh 17 = .ok (.if_icmp .ge 66, 3) := by decide +kernel
theorem dX4_weigh_20 : decode cX4_weigh 20 = .ok (.aload_n 1, 1) := by decide +kernel
theorem dX4_weigh_21 : decode cX4_weigh 21 = .ok (.getfield 62, 3) := by decide +kernel
theorem dX4_weigh_24 : decode cX4_weigh 24 = .ok (.iload 5, 2) := by decide +kernel
theorem dX4_weigh_26 : decode cX4_weigh 26 = .ok (.iaload, 1) := by decide +kernel
theorem dX4_weigh_27 : decode cX4_weigh 27 = .ok (.iload_n 2, 1) := by decide +kernel
theorem dX4_weigh_28 : decode cX4_weigh 28 = .ok (.if_icmp .ne 49, 3) := by decide +kernel
theorem dX4_weigh_31 : decode cX4_weigh 31 = .ok (.aload_n 0, 1) := by decide +kernel
theorem dX4_weigh_32 : decode cX4_weigh 32 = .ok (.getfield 37, 3) := by decide +kernel
theorem dX4_weigh_35 : decode cX4_weigh 35 = .ok (.aload_n 1, 1) := by decide +kernel
theorem dX4_weigh_36 : decode cX4_weigh 36 = .ok (.getfield 71, 3) := by decide +kernel
theorem dX4_weigh_39 : decode cX4_weigh 39 = .ok (.iload 5, 2) := by decide +kernel
theorem dX4_weigh_41 : decode cX4_weigh 41 = .ok (.iaload, 1) := by decide +kernel
theorem dX4_weigh_42 : decode cX4_weigh 42 = .ok (.invokestatic 74, 3) := by decide +kernel
theorem dX4_weigh_45 : decode cX4_weigh 45 = .ok (.ifCond .eq 32, 3) := by decide +kernel
theorem dX4_weigh_48 : decode cX4_weigh 48 = .ok (.aload_n 0, 1) := by decide +kernel
theorem dX4_weigh_49 : decode cX4_weigh 49 = .ok (.getfield 41, 3) := by decide +kernel
theorem dX4_weigh_52 : decode cX4_weigh 52 = .ok (.iload 5, 2) := by decide +kernel
theorem dX4_weigh_54 : decode cX4_weigh 54 = .ok (.invokestatic 74, 3) := by decide +kernel
theorem dX4_weigh_57 : decode cX4_weigh 57 = .ok (.ifCond .ne 20, 3) := by decide +kernel
theorem dX4_weigh_60 : decode cX4_weigh 60 = .ok (.iload 4, 2) := by decide +kernel
theorem dX4_weigh_62 : decode cX4_weigh 62 = .ok (.aload_n 0, 1) := by decide +kernel
theorem dX4_weigh_63 : decode cX4_weigh 63 = .ok (.getfield 9, 3) := by decide +kernel
theorem dX4_weigh_66 : decode cX4_weigh 66 = .ok (.aload_n 1, 1) := by decide +kernel
theorem dX4_weigh_67 : decode cX4_weigh 67 = .ok (.getfield 71, 3) := by decide +kernel
theorem dX4_weigh_70 : decode cX4_weigh 70 = .ok (.iload 5, 2) := by decide +kernel
theorem dX4_weigh_72 : decode cX4_weigh 72 = .ok (.iaload, 1) := by decide +kernel
theorem dX4_weigh_73 : decode cX4_weigh 73 = .ok (.iaload, 1) := by decide +kernel
theorem dX4_weigh_74 : decode cX4_weigh 74 = .ok (.iadd, 1) := by decide +kernel
theorem dX4_weigh_75 : decode cX4_weigh 75 = .ok (.istore 4, 2) := by decide +kernel
theorem dX4_weigh_77 : decode cX4_weigh 77 = .ok (.iinc 5 1, 3) := by decide +kernel
theorem dX4_weigh_80 : decode cX4_weigh 80 = .ok (.goto (-69), 3) := by decide +kernel
theorem dX4_weigh_83 : decode cX4_weigh 83 = .ok (.iload 4, 2) := by decide +kernel
theorem dX4_weigh_85 : decode cX4_weigh 85 = .ok (.iload_n 3, 1) := by decide +kernel
theorem dX4_weigh_86 : decode cX4_weigh 86 = .ok (.if_icmp .le 18, 3) := by decide +kernel
theorem dX4_weigh_89 : decode cX4_weigh 89 = .ok (.aload_n 0, 1) := by decide +kernel
theorem dX4_weigh_90 : decode cX4_weigh 90 = .ok (.dup, 1) := by decide +kernel
theorem dX4_weigh_91 : decode cX4_weigh 91 = .ok (.getfield 78, 3) := by decide +kernel
theorem dX4_weigh_94 : decode cX4_weigh 94 = .ok (.iconst 1, 1) := by decide +kernel
theorem dX4_weigh_95 : decode cX4_weigh 95 = .ok (.iload_n 2, 1) := by decide +kernel
theorem dX4_weigh_96 : decode cX4_weigh 96 = .ok (.ishl, 1) := by decide +kernel
theorem dX4_weigh_97 : decode cX4_weigh 97 = .ok (.ior, 1) := by decide +kernel
theorem dX4_weigh_98 : decode cX4_weigh 98 = .ok (.putfield 78, 3) := by decide +kernel
theorem dX4_weigh_101 : decode cX4_weigh 101 = .ok (.goto 11, 3) := by decide +kernel
theorem dX4_weigh_104 : decode cX4_weigh 104 = .ok (.aload_n 0, 1) := by decide +kernel
theorem dX4_weigh_105 : decode cX4_weigh 105 = .ok (.getfield 9, 3) := by decide +kernel
theorem dX4_weigh_108 : decode cX4_weigh 108 = .ok (.iload_n 2, 1) := by decide +kernel
theorem dX4_weigh_109 : decode cX4_weigh 109 = .ok (.iload 4, 2) := by decide +kernel
theorem dX4_weigh_111 : decode cX4_weigh 111 = .ok (.iastore, 1) := by decide +kernel
theorem dX4_weigh_112 : decode cX4_weigh 112 = .ok (.return_, 1) := by decide +kernel
set_option maxRecDepth 20000 in
theorem ggX4_waysOfPlainCallsTo_X7_has : GoodIn wsX4_waysOfPlainCallsTo wsX7_has := goodIn_r _ [6] (by decide +kernel) (by decide +kernel)
set_option maxRecDepth 20000 in
theorem gX4_waysOfPlainCallsTo_X7_has_n74 : GoodIn wsX4_waysOfPlainCallsTo (wsX7_has) := ggX4_waysOfPlainCallsTo_X7_has
theorem dX4_waysOfPlainCallsTo_0 : decode cX4_waysOfPlainCallsTo 0 = .ok (.iconst 0, 1) := by decide +kernel
theorem dX4_waysOfPlainCallsTo_1 : decode cX4_waysOfPlainCallsTo 1 = .ok (.istore_n 3, 1) := by decide +kernel
theorem dX4_waysOfPlainCallsTo_2 : decode cX4_waysOfPlainCallsTo 2 = .ok (.iconst 0, 1) := by decide +kernel
theorem dX4_waysOfPlainCallsTo_3 : decode cX4_waysOfPlainCallsTo 3 = .ok (.istore 4, 2) := by decide +kernel
theorem dX4_waysOfPlainCallsTo_5 : decode cX4_waysOfPlainCallsTo 5 = .ok (.iload 4, 2) := by decide +kernel
theorem dX4_waysOfPlainCallsTo_7 : decode cX4_waysOfPlainCallsTo 7 = .ok (.aload_n 0, 1) := by decide +kernel
theorem dX4_waysOfPlainCallsTo_8 : decode cX4_waysOfPlainCallsTo 8 = .ok (.getfield 31, 3) := by decide +kernel
theorem dX4_waysOfPlainCallsTo_11 : decode cX4_waysOfPlainCallsTo 11 = .ok (.if_icmp .ge 47, 3) := by decide +kernel
theorem dX4_waysOfPlainCallsTo_14 : decode cX4_waysOfPlainCallsTo 14 = .ok (.aload_n 0, 1) := by decide +kernel
theorem dX4_waysOfPlainCallsTo_15 : decode cX4_waysOfPlainCallsTo 15 = .ok (.getfield 68, 3) := by decide +kernel
theorem dX4_waysOfPlainCallsTo_18 : decode cX4_waysOfPlainCallsTo 18 = .ok (.iload 4, 2) := by decide +kernel
theorem dX4_waysOfPlainCallsTo_20 : decode cX4_waysOfPlainCallsTo 20 = .ok (.invokestatic 74, 3) := by decide +kernel
theorem dX4_waysOfPlainCallsTo_23 : decode cX4_waysOfPlainCallsTo 23 = .ok (.ifCond .eq 29, 3) := by decide +kernel
theorem dX4_waysOfPlainCallsTo_26 : decode cX4_waysOfPlainCallsTo 26 = .ok (.aload_n 1, 1) := by decide +kernel
theorem dX4_waysOfPlainCallsTo_27 : decode cX4_waysOfPlainCallsTo 27 = .ok (.getfield 62, 3) := by decide +kernel
theorem dX4_waysOfPlainCallsTo_30 : decode cX4_waysOfPlainCallsTo 30 = .ok (.iload 4, 2) := by decide +kernel
theorem dX4_waysOfPlainCallsTo_32 : decode cX4_waysOfPlainCallsTo 32 = .ok (.iaload, 1) := by decide +kernel
theorem dX4_waysOfPlainCallsTo_33 : decode cX4_waysOfPlainCallsTo 33 = .ok (.iload_n 2, 1) := by decide +kernel
theorem dX4_waysOfPlainCallsTo_34 : decode cX4_waysOfPlainCallsTo 34 = .ok (.if_icmp .ne 18, 3) := by decide +kernel
theorem dX4_waysOfPlainCallsTo_37 : decode cX4_waysOfPlainCallsTo 37 = .ok (.iload_n 3, 1) := by decide +kernel
theorem dX4_waysOfPlainCallsTo_38 : decode cX4_waysOfPlainCallsTo 38 = .ok (.aload_n 0, 1) := by decide +kernel
theorem dX4_waysOfPlainCallsTo_39 : decode cX4_waysOfPlainCallsTo 39 = .ok (.getfield 9, 3) := by decide +kernel
theorem dX4_waysOfPlainCallsTo_42 : decode cX4_waysOfPlainCallsTo 42 = .ok (.aload_n 1, 1) := by decide +kernel
theorem dX4_waysOfPlainCallsTo_43 : decode cX4_waysOfPlainCallsTo 43 = .ok (.getfield 71, 3) := by decide +kernel
theorem dX4_waysOfPlainCallsTo_46 : decode cX4_waysOfPlainCallsTo 46 = .ok (.iload 4, 2) := by decide +kernel
theorem dX4_waysOfPlainCallsTo_48 : decode cX4_waysOfPlainCallsTo 48 = .ok (.iaload, 1) := by decide +kernel
theorem dX4_waysOfPlainCallsTo_49 : decode cX4_waysOfPlainCallsTo 49 = .ok (.iaload, 1) := by decide +kernel
theorem dX4_waysOfPlainCallsTo_50 : decode cX4_waysOfPlainCallsTo 50 = .ok (.iadd, 1) := by decide +kernel
theorem dX4_waysOfPlainCallsTo_51 : decode cX4_waysOfPlainCallsTo 51 = .ok (.istore_n 3, 1) := by decide +kernel
theorem dX4_waysOfPlainCallsTo_52 : decode cX4_waysOfPlainCallsTo 52 = .ok (.iinc 4 1, 3) := by decide +kernel
theorem dX4_waysOfPlainCallsTo_55 : decode cX4_waysOfPlainCallsTo 55 = .ok (.goto (-50), 3) := by decide +kernel
theorem dX4_waysOfPlainCallsTo_58 : decode cX4_waysOfPlainCallsTo 58 = .ok (.iload_n 3, 1) := by decide +kernel
theorem dX4_waysOfPlainCallsTo_59 : decode cX4_waysOfPlainCallsTo 59 = .ok (.ireturn, 1) := by decide +kernel
set_option maxRecDepth 20000 in
theorem ggX4_kindOf_X7_has : GoodIn wsX4_kindOf wsX7_has := goodIn_r _ [7] (by decide +kernel) (by decide +kernel)
set_option maxRecDepth 20000 in
theorem gX4_kindOf_X7_has_n74 : GoodIn wsX4_kindOf (wsX7_has) := ggX4_kindOf_X7_has
theorem dX4_kindOf_0 : decode cX4_kindOf 0 = .ok (.aload_n 0, 1) := by decide +kernel
theorem dX4_kindOf_1 : decode cX4_kindOf 1 = .ok (.getfield 41, 3) := by decide +kernel
theorem dX4_kindOf_4 : decode cX4_kindOf 4 = .ok (.iload_n 2, 1) := by decide +kernel
theorem dX4_kindOf_5 : decode cX4_kindOf 5 = .ok (.invokestatic 74, 3) := by decide +kernel
theorem dX4_kindOf_8 : decode cX4_kindOf 8 = .ok (.ifCond .eq 5, 3) := by decide +kernel
theorem dX4_kindOf_11 : decode cX4_kindOf 11 = .ok (.iconst 1, 1) := by decide +kernel
theorem dX4_kindOf_12 : decode cX4_kindOf 12 = .ok (.ireturn, 1) := by decide +kernel
theorem dX4_kindOf_13 : decode cX4_kindOf 13 = .ok (.iload_n 2, 1) := by decide +kernel
theorem dX4_kindOf_14 : decode cX4_kindOf 14 = .ok (.aload_n 0, 1) := by decide +kernel
theorem dX4_kindOf_15 : decode cX4_kindOf 15 = .ok (.getfield 31, 3) := by decide +kernel
theorem dX4_kindOf_18 : decode cX4_kindOf 18 = .ok (.if_icmp .lt 5, 3) := by decide +kernel
theorem dX4_kindOf_21 : decode cX4_kindOf 21 = .ok (.iconst 2, 1) := by decide +kernel
theorem dX4_kindOf_22 : decode cX4_kindOf 22 = .ok (.ireturn, 1) := by decide +kernel
theorem dX4_kindOf_23 : decode cX4_kindOf 23 = .ok (.aload_n 0, 1) := by decide +kernel
theorem dX4_kindOf_24 : decode cX4_kindOf 24 = .ok (.getfield 37, 3) := by decide +kernel
theorem dX4_kindOf_27 : decode cX4_kindOf 27 = .ok (.aload_n 1, 1) := by decide +kernel
theorem dX4_kindOf_28 : decode cX4_kindOf 28 = .ok (.getfield 71, 3) := by decide +kernel
theorem dX4_kindOf_31 : decode cX4_kindOf 31 = .ok (.iload_n 2, 1) := by decide +kernel
theorem dX4_kindOf_32 : decode cX4_kindOf 32 = .ok (.iaload, 1) := by decide +kernel
theorem dX4_kindOf_33 : decode cX4_kindOf 33 = .ok (.invokestatic 74, 3) := by decide +kernel
theorem dX4_kindOf_36 : decode cX4_kindOf 36 = .ok (.ifCond .ne 5, 3) := by decide +kernel
theorem dX4_kindOf_39 : decode cX4_kindOf 39 = .ok (.iconst 3, 1) := by decide +kernel
theorem dX4_kindOf_40 : decode cX4_kindOf 40 = .ok (.ireturn, 1) := by decide +kernel
theorem dX4_kindOf_41 : decode cX4_kindOf 41 = .ok (.aload_n 0, 1) := by decide +kernel
theorem dX4_kindOf_42 : decode cX4_kindOf 42 = .ok (.getfield 78, 3) := by decide +kernel
theorem dX4_kindOf_45 : decode cX4_kindOf 45 = .ok (.aload_n 1, 1) := by decide +kernel
theorem dX4_kindOf_46 : decode cX4_kindOf 46 = .ok (.getfield 62, 3) := by decide +kernel
theorem dX4_kindOf_49 : decode cX4_kindOf 49 = .ok (.iload_n 2, 1) := by decide +kernel
theorem dX4_kindOf_50 : decode cX4_kindOf 50 = .ok (.iaload, 1) := by decide +kernel
theorem dX4_kindOf_51 : decode cX4_kindOf 51 = .ok (.invokestatic 74, 3) := by decide +kernel
theorem dX4_kindOf_54 : decode cX4_kindOf 54 = .ok (.ifCond .eq 7, 3) := by decide +kernel
theorem dX4_kindOf_57 : decode cX4_kindOf 57 = .ok (.iconst 4, 1) := by decide +kernel
theorem dX4_kindOf_58 : decode cX4_kindOf 58 = .ok (.goto 4, 3) := by decide +kernel
theorem dX4_kindOf_61 : decode cX4_kindOf 61 = .ok (.iconst 0, 1) := by decide +kernel
theorem dX4_kindOf_62 : decode cX4_kindOf 62 = .ok (.ireturn, 1) := by decide +kernel
set_option maxRecDepth 20000 in
theorem ggX5_init_X2_lastNumber : GoodIn wsX5_init wsX2_lastNumber := goodIn_r _ [12, 13, 14, 39, 40, 41, 42] (by decide +kernel) (by decide +kernel)
set_option maxRecDepth 20000 in
theorem gX5_init_X2_lastNumber_n24 : GoodIn wsX5_init (wsX2_lastNumber) := ggX5_init_X2_lastNumber
set_option maxRecDepth 20000 in
theorem ggX5_init_J7_copyOf_59c91 : GoodIn wsX5_init wsJ7_copyOf_59c91 := goodIn_r _ [18, 19, 20, 21, 22, 23, 24, 25, 26, 27, 28, 29, 30, 31, 32, 33] (by decide +kernel) (by decide +kernel)
set_option maxRecDepth 20000 in
theorem gX5_init_J7_copyOf_59c91 : GoodIn wsX5_init (va_wsS RX5 37 yJ7_copyOf_59c91 wsJ7_copyOf_59c91) := goodIn_app (goodIn_of _ (by decide +kernel)) ggX5_init_J7_copyOf_59c91
theorem dX5_init_0 : decode cX5_init 0 = .ok (.aload_n 0, 1) := by decide +kernel
theorem dX5_init_1 : decode cX5_init 1 = .ok (.invokespecial 1, 3) := by decide +kernel
theorem dX5_init_4 : decode cX5_init 4 = .ok (.aload_n 0, 1) := by decide +kernel
theorem dX5_init_5 : decode cX5_init 5 = .ok (.iload_n 1, 1) := by decide +kernel
theorem dX5_init_6 : decode cX5_init 6 = .ok (.putfield 7, 3) := by decide +kernel
theorem dX5_init_9 : decode cX5_init 9 = .ok (.aload_n 0, 1) := by decide +kernel
theorem dX5_init_10 : decode cX5_init 10 = .ok (.iload_n 2, 1) := by decide +kernel
theorem dX5_init_11 : decode cX5_init 11 = .ok (.putfield 13, 3) := by decide +kernel
theorem dX5_init_14 : decode cX5_init 14 = .ok (.aload_n 0, 1) := by decide +kernel
theorem dX5_init_15 : decode cX5_init 15 = .ok (.aload_n 3, 1) := by decide +kernel
theorem dX5_init_16 : decode cX5_init 16 = .ok (.getfield 16, 3) := by decide +kernel
theorem dX5_init_19 : decode cX5_init 19 = .ok (.putfield 21, 3) := by decide +kernel
theorem dX5_init_22 : decode cX5_init 22 = .ok (.aload_n 0, 1) := by decide +kernel
theorem dX5_init_23 : decode cX5_init 23 = .ok (.aload_n 3, 1) := by decide +kernel
theorem dX5_init_24 : decode cX5_init 24 = .ok (.invokevirtual 24, 3) := by decide +kernel
theorem dX5_init_27 : decode cX5_init 27 = .ok (.putfield 28, 3) := by decide +kernel
theorem dX5_init_30 : decode cX5_init 30 = .ok (.aload_n 0, 1) := by decide +kernel
theorem dX5_init_31 : decode cX5_init 31 = .ok (.aload 4, 2) := by decide +kernel
theorem dX5_init_33 : decode cX5_init 33 = .ok (.getfield 30, 3) := by decide +kernel
theorem dX5_init_36 : decode cX5_init 36 = .ok (.aload 4, 2) := by decide +kernel
theorem dX5_init_38 : decode cX5_init 38 = .ok (.getfield 36, 3) := by decide +kernel
theorem dX5_init_41 : decode cX5_init 41 = .ok (.invokestatic 37, 3) := by decide +kernel
theorem dX5_init_44 : decode cX5_init 44 = .ok (.putfield 43, 3) := by decide +kernel
theorem dX5_init_47 : decode cX5_init 47 = .ok (.return_, 1) := by decide +kernel
theorem dX6_init_0 : decode cX6_init 0 = .ok (.aload_n 0, 1) := by decide +kernel
theorem dX6_init_1 : decode cX6_init 1 = .ok (.invokespecial 3, 3) := by decide +kernel
theorem dX6_init_4 : decode cX6_init 4 = .ok (.aload_n 0, 1) := by decide +kernel
theorem dX6_init_5 : decode cX6_init 5 = .ok (.bipush 10, 2) := by decide +kernel
theorem dX6_init_7 : decode cX6_init 7 = .ok (.newarray .int, 2) := by decide +kernel
theorem dX6_init_9 : decode cX6_init 9 = .ok (.putfield 9, 3) := by decide +kernel
theorem dX6_init_12 : decode cX6_init 12 = .ok (.return_, 1) := by decide +kernel
set_option maxRecDepth 20000 in
theorem ggX6_goThrough_X7_has : GoodIn wsX6_goThrough wsX7_has := goodIn_r _ [7] (by decide +kernel) (by decide +kernel)
set_option maxRecDepth 20000 in
theorem gX6_goThrough_X7_has_n36 : GoodIn wsX6_goThrough (wsX7_has) := ggX6_goThrough_X7_has
set_option maxRecDepth 20000 in
theorem ggX6_goThrough_X6_goThrough : GoodIn wsX6_goThrough wsX6_goThrough := goodIn_r _ [0, 1, 2, 3, 4, 5, 6, 7, 8, 9, 10, 11, 12, 13, 14, 15, 16, 17, 18, 19, 20, 21, 22, 23] (by decide +kernel) (by decide +kernel)
set_option maxRecDepth 20000 in
theorem gX6_goThrough_X6_goThrough : GoodIn wsX6_goThrough (va_wsS RX6 43 yX6_goThrough wsX6_goThrough) := goodIn_app (goodIn_of _ (by decide +kernel)) ggX6_goThrough_X6_goThrough
set_option maxRecDepth 20000 in
theorem ggX6_goThrough_X6_end : GoodIn wsX6_goThrough wsX6_end := goodIn_r _ [14, 1, 15, 16, 17, 18, 19, 20] (by decide +kernel) (by decide +kernel)
set_option maxRecDepth 20000 in
theorem gX6_goThrough_X6_end : GoodIn wsX6_goThrough (wsV RX6 47 RX6 yX6_end wsX6_end) := goodIn_app (goodIn_of _ (by decide +kernel)) ggX6_goThrough_X6_end
theorem dX6_goThrough_0 : decode cX6_goThrough 0 = .ok (.iload_n 3, 1) := by decide +kernel
theorem dX6_goThrough_1 : decode cX6_goThrough 1 = .ok (.bipush 10, 2) := by decide +kernel
theorem dX6_goThrough_3 : decode cX6_goThrough 3 = .ok (.if_icmp .ge 12, 3) := by decide +kernel
theorem dX6_goThrough_6 : decode cX6_goThrough 6 = .ok (.aload_n 0, 1) := by decide +kernel
theorem dX6_goThrough_7 : decode cX6_goThrough 7 = .ok (.getfield 15, 3) := by decide +kernel
theorem dX6_goThrough_10 : decode cX6_goThrough 10 = .ok (.bipush 10, 2) := by decide +kernel
theorem dX6_goThrough_12 : decode cX6_goThrough 12 = .ok (.if_icmp .lt 4, 3) := by decide +kernel
theorem dX6_goThrough_15 : decode cX6_goThrough 15 = .ok (.return_, 1) := by decide +kernel
theorem dX6_goThrough_16 : decode cX6_goThrough 16 = .ok (.aload_n 0, 1) := by decide +kernel
theorem dX6_goThrough_17 : decode cX6_goThrough 17 = .ok (.dup, 1) := by decide +kernel
theorem dX6_goThrough_18 : decode cX6_goThrough 18 = .ok (.getfield 19, 3) := by decide +kernel
theorem dX6_goThrough_21 : decode cX6_goThrough 21 = .ok (.iconst 1, 1) := by decide +kernel
theorem dX6_goThrough_22 : decode cX6_goThrough 22 = .ok (.iload_n 2, 1) := by decide +kernel
theorem dX6_goThrough_23 : decode cX6_goThrough 23 = .ok (.ishl, 1) := by decide +kernel
theorem dX6_goThrough_24 : decode cX6_goThrough 24 = .ok (.ior, 1) := by decide +kernel
theorem dX6_goThrough_25 : decode cX6_goThrough 25 = .ok (.putfield 19, 3) := by decide +kernel
theorem dX6_goThrough_28 : decode cX6_goThrough 28 = .ok (.aload_n 0, 1) := by decide +kernel
theorem dX6_goThrough_29 : decode cX6_goThrough 29 = .ok (.dup, 1) := by decide +kernel
theorem dX6_goThrough_30 : decode cX6_goThrough 30 = .ok (.getfield 22, 3) := by decide +kernel
theorem dX6_goThrough_33 : decode cX6_goThrough 33 = .ok (.iconst 1, 1) := by decide +kernel
theorem dX6_goThrough_34 : decode cX6_goThrough 34 = .ok (.iload_n 2, 1) := by decide +kernel
theorem dX6_goThrough_35 : decode cX6_goThrough 35 = .ok (.ishl, 1) := by decide +kernel
theorem dX6_goThrough_36 : decode cX6_goThrough 36 = .ok (.ior, 1) := by decide +kernel
theorem dX6_goThrough_37 : decode cX6_goThrough 37 = .ok (.putfield 22, 3) := by decide +kernel
theorem dX6_goThrough_40 : decode cX6_goThrough 40 = .ok (.iconst 0, 1) := by decide +kernel
theorem dX6_goThrough_41 : decode cX6_goThrough 41 = .ok (.istore 4, 2) := by decide +kernel
theorem dX6_goThrough_43 : decode cX6_goThrough 43 = .ok (.iload 4, 2) := by decide +kernel
theorem dX6_goThrough_45 : decode cX6_goThrough 45 = .ok (.aload_n 1, 1) := by decide +kernel
theorem dX6_goThrough_46 : decode cX6_goThrough 46 = .ok (.getfield 25, 3) := by decide +kernel
theorem dX6_goThrough_49 : decode cX6_goThrough 49 = .ok (.if_icmp .ge 88, 3) := by decide +kernel
theorem dX6_goThrough_52 : decode cX6_goThrough 52 = .ok (.aload_n 1, 1) := by decide +kernel
theorem dX6_goThrough_53 : decode cX6_goThrough 53 = .ok (.getfield 30, 3) := by decide +kernel
theorem dX6_goThrough_56 : decode cX6_goThrough 56 = .ok (.iload 4, 2) := by decide +kernel
theorem dX6_goThrough_58 : decode cX6_goThrough 58 = .ok (.iaload, 1) := by decide +kernel
theorem dX6_goThrough_59 : decode cX6_goThrough 59 = .ok (.iload_n 2, 1) := by decide +kernel
theorem dX6_goThrough_60 : decode cX6_goThrough 60 = .ok (.if_icmp .eq 6, 3) := by decide +kernel
theorem dX6_goThrough_63 : decode cX6_goThrough 63 = .ok (.goto 68, 3) := by decide +kernel
theorem dX6_goThrough_66 : decode cX6_goThrough 66 = .ok (.aload_n 0, 1) := by decide +kernel
theorem dX6_goThrough_67 : decode cX6_goThrough 67 = .ok (.getfield 22, 3) := by decide +kernel
theorem dX6_goThrough_70 : decode cX6_goThrough 70 = .ok (.aload_n 1, 1) := by decide +kernel
theorem dX6_goThrough_71 : decode cX6_goThrough 71 = .ok (.getfield 33, 3) := by decide +kernel
theorem dX6_goThrough_74 : decode cX6_goThrough 74 = .ok (.iload 4, 2) := by decide +kernel
theorem dX6_goThrough_76 : decode cX6_goThrough 76 = .ok (.iaload, 1) := by decide +kernel
theorem dX6_goThrough_77 : decode cX6_goThrough 77 = .ok (.invokestatic 36, 3) := by decide +kernel
theorem dX6_goThrough_80 : decode cX6_goThrough 80 = .ok (.ifCond .eq 19, 3) := by decide +kernel
theorem dX6_goThrough_83 : decode cX6_goThrough 83 = .ok (.aload_n 0, 1) := by decide +kernel
theorem dX6_goThrough_84 : decode cX6_goThrough 84 = .ok (.dup, 1) := by decide +kernel
theorem dX6_goThrough_85 : decode cX6_goThrough 85 = .ok (.getfield 40, 3) := by decide +kernel
theorem dX6_goThrough_88 : decode cX6_goThrough 88 = .ok (.iconst 1, 1) := by decide +kernel
theorem dX6_goThrough_89 : decode cX6_goThrough 89 = .ok (.iload 4, 2) := by decide +kernel
theorem dX6_goThrough_91 : decode cX6_goThrough 91 = .ok (.ishl, 1) := by decide +kernel
theorem dX6_goThrough_92 : decode cX6_goThrough 92 = .ok (.ior, 1) := by decide +kernel
theorem dX6_goThrough_93 : decode cX6_goThrough 93 = .ok (.putfield 40, 3) := by decide +kernel
theorem dX6_goThrough_96 : decode cX6_goThrough 96 = .ok (.goto 35, 3) := by decide +kernel
theorem dX6_goThrough_99 : decode cX6_goThrough 99 = .ok (.aload_n 0, 1) := by decide +kernel
theorem dX6_goThrough_100 : decode cX6_goThrough 100 = .ok (.getfield 19, 3) := by decide +kernel
theorem dX6_goThrough_103 : decode cX6_goThrough 103 = .ok (.aload_n 1, 1) := by decide +kernel
theorem dX6_goThrough_104 : decode cX6_goThrough 104 = .ok (.getfield 33, 3) := by decide +kernel
theorem dX6_goThrough_107 : decode cX6_goThrough 107 = .ok (.iload 4, 2) := by decide +kernel
theorem dX6_goThrough_109 : decode cX6_goThrough 109 = .ok (.iaload, 1) := by decide +kernel
theorem dX6_goThrough_110 : decode cX6_goThrough 110 = .ok (.invokestatic 36, 3) := by decide +kernel
theorem dX6_goThrough_113 : decode cX6_goThrough 113 = .ok (.ifCond .ne 18, 3) := by decide +kernel
theorem dX6_goThrough_116 : decode cX6_goThrough 116 = .ok (.aload_n 0, 1) := by decide +kernel
theorem dX6_goThrough_117 : decode cX6_goThrough 117 = .ok (.aload_n 1, 1) := by decide +kernel
theorem dX6_goThrough_118 : decode cX6_goThrough 118 = .ok (.aload_n 1, 1) := by decide +kernel
theorem dX6_goThrough_119 : decode cX6_goThrough 119 = .ok (.getfield 33, 3) := by decide +kernel
theorem dX6_goThrough_122 : decode cX6_goThrough 122 = .ok (.iload 4, 2) := by decide +kernel
theorem dX6_goThrough_124 : decode cX6_goThrough 124 = .ok (.iaload, 1) := by decide +kernel
theorem dX6_goThrough_125 : decode cX6_goThrough 125 = .ok (.iload_n 3, 1) := by decide +kernel
theorem dX6_goThrough_126 : decode cX6_goThrough 126 = .ok (.iconst 1, 1) := by decide +kernel
theorem dX6_goThrough_127 : decode cX6_goThrough 127 = .ok (.iadd, 1) := by decide +kernel
theorem dX6_goThrough_128 : decode cX6_goThrough 128 = .ok (.invokestatic 43, 3) := by decide +kernel
theorem dX6_goThrough_131 : decode cX6_goThrough 131 = .ok (.iinc 4 1, 3) := by decide +kernel
theorem dX6_goThrough_134 : decode cX6_goThrough 134 = .ok (.goto (-91), 3) := by decide +kernel
theorem dX6_goThrough_137 : decode cX6_goThrough 137 = .ok (.aload_n 0, 1) := by decide +kernel
theorem dX6_goThrough_138 : decode cX6_goThrough 138 = .ok (.dup, 1) := by decide +kernel
theorem dX6_goThrough_139 : decode cX6_goThrough 139 = .ok (.getfield 22, 3) := by decide +kernel
theorem dX6_goThrough_142 : decode cX6_goThrough 142 = .ok (.iconst 1, 1) := by decide +kernel
theorem dX6_goThrough_143 : decode cX6_goThrough 143 = .ok (.iload_n 2, 1) := by decide +kernel
theorem dX6_goThrough_144 : decode cX6_goThrough 144 = .ok (.ishl, 1) := by decide +kernel
theorem dX6_goThrough_145 : decode cX6_goThrough 145 = .ok (.iconst (-1), 1) := by decide +kernel
theorem dX6_goThrough_146 : decode cX6_goThrough 146 = .ok (.ixor, 1) := by decide +kernel
theorem dX6_goThrough_147 : decode cX6_goThrough 147 = .ok (.iand, 1) := by decide +kernel
theorem dX6_goThrough_148 : decode cX6_goThrough 148 = .ok (.putfield 22, 3) := by decide +kernel
theorem dX6_goThrough_151 : decode cX6_goThrough 151 = .ok (.aload_n 0, 1) := by decide +kernel
theorem dX6_goThrough_152 : decode cX6_goThrough 152 = .ok (.iload_n 2, 1) := by decide +kernel
theorem dX6_goThrough_153 : decode cX6_goThrough 153 = .ok (.invokevirtual 47, 3) := by decide +kernel
theorem dX6_goThrough_156 : decode cX6_goThrough 156 = .ok (.return_, 1) := by decide +kernel
theorem dX6_end_0 : decode cX6_end 0 = .ok (.aload_n 0, 1) := by decide +kernel
theorem dX6_end_1 : decode cX6_end 1 = .ok (.getfield 15, 3) := by decide +kernel
theorem dX6_end_4 : decode cX6_end 4 = .ok (.bipush 10, 2) := by decide +kernel
theorem dX6_end_6 : decode cX6_end 6 = .ok (.if_icmp .ge 23, 3) := by decide +kernel
theorem dX6_end_9 : decode cX6_end 9 = .ok (.aload_n 0, 1) := by decide +kernel
theorem dX6_end_10 : decode cX6_end 10 = .ok (.getfield 9, 3) := by decide +kernel
theorem dX6_end_13 : decode cX6_end 13 = .ok (.aload_n 0, 1) := by decide +kernel
theorem dX6_end_14 : decode cX6_end 14 = .ok (.getfield 15, 3) := by decide +kernel
theorem dX6_end_17 : decode cX6_end 17 = .ok (.iload_n 1, 1) := by decide +kernel
theorem dX6_end_18 : decode cX6_end 18 = .ok (.iastore, 1) := by decide +kernel
theorem dX6_end_19 : decode cX6_end 19 = .ok (.aload_n 0, 1) := by decide +kernel
theorem dX6_end_20 : decode cX6_end 20 = .ok (.dup, 1) := by decide +kernel
theorem dX6_end_21 : decode cX6_end 21 = .ok (.getfield 15, 3) := by decide +kernel
theorem dX6_end_24 : decode cX6_end 24 = .ok (.iconst 1, 1) := by decide +kernel
theorem dX6_end_25 : decode cX6_end 25 = .ok (.iadd, 1) := by decide +kernel
theorem dX6_end_26 : decode cX6_end 26 = .ok (.putfield 15, 3) := by decide +kernel
theorem dX6_end_29 : decode cX6_end 29 = .ok (.return_, 1) := by decide +kernel
