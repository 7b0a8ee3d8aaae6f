set_option maxRecDepth 20000 in
theorem gX5_time_X5_setPart : GoodIn wsX5_time (wsV RX5 31 RX5 yX5_setPart wsX5_setPart) := goodIn_app (goodIn_of _ (by decide +kernel)) ggX5_time_X5_setPart
theorem dX5_time_0 : decode cX5_time 0 = .ok (.iload_n 1, 1) := by decide +kernel
theorem dX5_time_1 : decode cX5_time 1 = .ok (.invokestatic 80, 3) := by decide +kernel
theorem dX5_time_4 : decode cX5_time 4 = .ok (.ifCond .ne 5, 3) := by decide +kernel
theorem dX5_time_7 : decode cX5_time 7 = .ok (.iconst (-1), 1) := by decide +kernel
theorem dX5_time_8 : decode cX5_time 8 = .ok (.ireturn, 1) := by decide +kernel
theorem dX5_time_9 : decode cX5_time 9 = .ok (.iload_n 3, 1) := by decide +kernel
theorem dX5_time_10 : decode cX5_time 10 = .ok (.iconst 1, 1) := by decide +kernel
theorem dX5_time_11 : decode cX5_time 11 = .ok (.bipush 9, 2) := by decide +kernel
theorem dX5_time_13 : decode cX5_time 13 = .ok (.invokestatic 43, 3) := by decide +kernel
theorem dX5_time_16 : decode cX5_time 16 = .ok (.ifCond .ne 6, 3) := by decide +kernel
theorem dX5_time_19 : decode cX5_time 19 = .ok (.bipush (-2), 2) := by decide +kernel
theorem dX5_time_21 : decode cX5_time 21 = .ok (.ireturn, 1) := by decide +kernel
theorem dX5_time_22 : decode cX5_time 22 = .ok (.aload_n 0, 1) := by decide +kernel
theorem dX5_time_23 : decode cX5_time 23 = .ok (.invokevirtual 83, 3) := by decide +kernel
theorem dX5_time_26 : decode cX5_time 26 = .ok (.iload_n 2, 1) := by decide +kernel
theorem dX5_time_27 : decode cX5_time 27 = .ok (.ifCond .eq 7, 3) := by decide +kernel
theorem dX5_time_30 : decode cX5_time 30 = .ok (.iconst 1, 1) := by decide +kernel
theorem dX5_time_31 : decode cX5_time 31 = .ok (.goto 4, 3) := by decide +kernel
theorem dX5_time_34 : decode cX5_time 34 = .ok (.iconst 0, 1) := by decide +kernel
theorem dX5_time_35 : decode cX5_time 35 = .ok (.istore 4, 2) := by decide +kernel
theorem dX5_time_37 : decode cX5_time 37 = .ok (.aload_n 0, 1) := by decide +kernel
theorem dX5_time_38 : decode cX5_time 38 = .ok (.iload_n 1, 1) := by decide +kernel
theorem dX5_time_39 : decode cX5_time 39 = .ok (.iload 4, 2) := by decide +kernel
theorem dX5_time_41 : decode cX5_time 41 = .ok (.invokevirtual 47, 3) := by decide +kernel
theorem dX5_time_44 : decode cX5_time 44 = .ok (.istore 5, 2) := by decide +kernel
theorem dX5_time_46 : decode cX5_time 46 = .ok (.aload_n 0, 1) := by decide +kernel
theorem dX5_time_47 : decode cX5_time 47 = .ok (.iload_n 1, 1) := by decide +kernel
theorem dX5_time_48 : decode cX5_time 48 = .ok (.iload 4, 2) := by decide +kernel
theorem dX5_time_50 : decode cX5_time 50 = .ok (.iload_n 3, 1) := by decide +kernel
theorem dX5_time_51 : decode cX5_time 51 = .ok (.invokevirtual 31, 3) := by decide +kernel
theorem dX5_time_54 : decode cX5_time 54 = .ok (.iload 5, 2) := by decide +kernel
theorem dX5_time_56 : decode cX5_time 56 = .ok (.ireturn, 1) := by decide +kernel
set_option maxRecDepth 20000 in
theorem ggX5_life_X5_within : GoodIn wsX5_life wsX5_within := goodIn_r _ [5] (by decide +kernel) (by decide +kernel)
set_option maxRecDepth 20000 in
theorem gX5_life_X5_within : GoodIn wsX5_life (va_wsS RX5 43 yX5_within wsX5_within) := goodIn_app (goodIn_of _ (by decide +kernel)) ggX5_life_X5_within
set_option maxRecDepth 20000 in
theorem ggX5_life_X5_record : GoodIn wsX5_life wsX5_record := goodIn_r _ [9, 10, 11, 1, 12, 13, 4, 14, 15, 16, 17, 18, 19, 20, 21, 22, 23, 24, 25, 26] (by decide +kernel) (by decide +kernel)
set_option maxRecDepth 20000 in
theorem gX5_life_X5_record : GoodIn wsX5_life (wsV RX5 83 RX5 yX5_record wsX5_record) := goodIn_app (goodIn_of _ (by decide +kernel)) ggX5_life_X5_record
theorem dX5_life_0 : decode cX5_life 0 = .ok (.iload_n 1, 1) := by decide +kernel
theorem dX5_life_1 : decode cX5_life 1 = .ok (.iconst 0, 1) := by decide +kernel
theorem dX5_life_2 : decode cX5_life 2 = .ok (.bipush 99, 2) := by decide +kernel
theorem dX5_life_4 : decode cX5_life 4 = .ok (.invokestatic 43, 3) := by decide +kernel
theorem dX5_life_7 : decode cX5_life 7 = .ok (.ifCond .ne 6, 3) := by decide +kernel
theorem dX5_life_10 : decode cX5_life 10 = .ok (.bipush (-2), 2) := by decide +kernel
theorem dX5_life_12 : decode cX5_life 12 = .ok (.ireturn, 1) := by decide +kernel
theorem dX5_life_13 : decode cX5_life 13 = .ok (.aload_n 0, 1) := by decide +kernel
theorem dX5_life_14 : decode cX5_life 14 = .ok (.invokevirtual 83, 3) := by decide +kernel
theorem dX5_life_17 : decode cX5_life 17 = .ok (.aload_n 0, 1) := by decide +kernel
theorem dX5_life_18 : decode cX5_life 18 = .ok (.getfield 7, 3) := by decide +kernel
theorem dX5_life_21 : decode cX5_life 21 = .ok (.iconst 5, 1) := by decide +kernel
theorem dX5_life_22 : decode cX5_life 22 = .ok (.iaload, 1) := by decide +kernel
theorem dX5_life_23 : decode cX5_life 23 = .ok (.istore_n 2, 1) := by decide +kernel
theorem dX5_life_24 : decode cX5_life 24 = .ok (.aload_n 0, 1) := by decide +kernel
theorem dX5_life_25 : decode cX5_life 25 = .ok (.getfield 7, 3) := by decide +kernel
theorem dX5_life_28 : decode cX5_life 28 = .ok (.iconst 5, 1) := by decide +kernel
theorem dX5_life_29 : decode cX5_life 29 = .ok (.iload_n 1, 1) := by decide +kernel
theorem dX5_life_30 : decode cX5_life 30 = .ok (.iastore, 1) := by decide +kernel
theorem dX5_life_31 : decode cX5_life 31 = .ok (.iload_n 2, 1) := by decide +kernel
theorem dX5_life_32 : decode cX5_life 32 = .ok (.ireturn, 1) := by decide +kernel
set_option maxRecDepth 20000 in
theorem ggX5_relaysWithBranches_X5_part : GoodIn wsX5_relaysWithBranches wsX5_part := goodIn_r _ [5, 6, 7, 8, 9, 10, 11, 12, 13, 14, 15, 16, 17, 18] (by decide +kernel) (by decide +kernel)
set_option maxRecDepth 20000 in
theorem gX5_relaysWithBranches_X5_part : GoodIn wsX5_relaysWithBranches (wsV RX5 47 RX5 yX5_part wsX5_part) := goodIn_app (goodIn_of _ (by decide +kernel)) ggX5_relaysWithBranches_X5_part
theorem dX5_relaysWithBranches_0 : decode cX5_relaysWithBranches 0 = .ok (.iconst 0, 1) := by decide +kernel
theorem dX5_relaysWithBranches_1 : decode cX5_relaysWithBranches 1 = .ok (.istore_n 1, 1) := by decide +kernel
theorem dX5_relaysWithBranches_2 : decode cX5_relaysWithBranches 2 = .ok (.iconst 0, 1) := by decide +kernel
theorem dX5_relaysWithBranches_3 : decode cX5_relaysWithBranches 3 = .ok (.istore_n 2, 1) := by decide +kernel
theorem dX5_relaysWithBranches_4 : decode cX5_relaysWithBranches 4 = .ok (.iload_n 2, 1) := by decide +kernel
theorem dX5_relaysWithBranches_5 : decode cX5_relaysWithBranches 5 = .ok (.bipush 10, 2) := by decide +kernel
theorem dX5_relaysWithBranches_7 : decode cX5_relaysWithBranches 7 = .ok (.if_icmp .ge 26, 3) := by decide +kernel
theorem dX5_relaysWithBranches_10 : decode cX5_relaysWithBranches 10 = .ok (.iload_n 1, 1) := by decide +kernel
theorem dX5_relaysWithBranches_11 : decode cX5_relaysWithBranches 11 = .ok (.aload_n 0, 1) := by decide +kernel
theorem dX5_relaysWithBranches_12 : decode cX5_relaysWithBranches 12 = .ok (.iload_n 2, 1) := by decide +kernel
theorem dX5_relaysWithBranches_13 : decode cX5_relaysWithBranches 13 = .ok (.iconst 4, 1) := by decide +kernel
theorem dX5_relaysWithBranches_14 : decode cX5_relaysWithBranches 14 = .ok (.invokevirtual 47, 3) := by decide +kernel
theorem dX5_relaysWithBranches_17 : decode cX5_relaysWithBranches 17 = .ok (.ifCond .le 7, 3) := by decide +kernel
theorem dX5_relaysWithBranches_20 : decode cX5_relaysWithBranches 20 = .ok (.iconst 1, 1) := by decide +kernel
theorem dX5_relaysWithBranches_21 : decode cX5_relaysWithBranches 21 = .ok (.goto 4, 3) := by decide +kernel
theorem dX5_relaysWithBranches_24 : decode cX5_relaysWithBranches 24 = .ok (.iconst 0, 1) := by decide +kernel
theorem dX5_relaysWithBranches_25 : decode cX5_relaysWithBranches 25 = .ok (.iadd, 1) := by decide +kernel
theorem dX5_relaysWithBranches_26 : decode cX5_relaysWithBranches 26 = .ok (.istore_n 1, 1) := by decide +kernel
theorem dX5_relaysWithBranches_27 : decode cX5_relaysWithBranches 27 = .ok (.iinc 2 1, 3) := by decide +kernel
theorem dX5_relaysWithBranches_30 : decode cX5_relaysWithBranches 30 = .ok (.goto (-26), 3) := by decide +kernel
theorem dX5_relaysWithBranches_33 : decode cX5_relaysWithBranches 33 = .ok (.iload_n 1, 1) := by decide +kernel
theorem dX5_relaysWithBranches_34 : decode cX5_relaysWithBranches 34 = .ok (.ireturn, 1) := by decide +kernel
set_option maxRecDepth 20000 in
theorem ggX5_read_X5_findFault : GoodIn wsX5_read wsX5_findFault := goodIn_r _ [10, 1, 2, 11, 12, 13, 9, 14, 4, 3, 15, 16, 17, 18, 19, 20, 21, 22, 23, 24, 25, 26, 27, 28, 29, 30, 31, 32, 33, 34, 5, 35, 36, 37, 60, 61, 62, 63, 64, 65, 66, 67, 68, 69, 70, 71] (by decide +kernel) (by decide +kernel)
set_option maxRecDepth 20000 in
theorem gX5_read_X5_findFault : GoodIn wsX5_read (wsV RX5 86 RX5 yX5_findFault wsX5_findFault) := goodIn_app (goodIn_of _ (by decide +kernel)) ggX5_read_X5_findFault
set_option maxRecDepth 20000 in
theorem ggX5_read_X5_record : GoodIn wsX5_read wsX5_record := goodIn_r _ [41, 42, 43, 44, 45, 46, 9, 47, 60, 61, 62, 63, 64, 65, 66, 67, 68, 69, 70, 71] (by decide +kernel) (by decide +kernel)
set_option maxRecDepth 20000 in
theorem gX5_read_X5_record : GoodIn wsX5_read (wsV RX5 83 RX5 yX5_record wsX5_record) := goodIn_app (goodIn_of _ (by decide +kernel)) ggX5_read_X5_record
set_option maxRecDepth 20000 in
theorem ggX5_read_X5_readsCircuit : GoodIn wsX5_read wsX5_readsCircuit := goodIn_r _ [14, 4, 1, 3, 15, 16, 17, 9, 18, 2, 19, 20, 21, 22, 23, 24, 25, 26, 27, 28, 29, 30, 31, 32, 33, 34, 5, 35, 36, 37, 60, 61, 62, 63, 64, 65, 66, 67, 68, 69, 70, 71] (by decide +kernel) (by decide +kernel)
set_option maxRecDepth 20000 in
theorem gX5_read_X5_readsCircuit : GoodIn wsX5_read (wsV RX5 95 RX5 yX5_readsCircuit wsX5_readsCircuit) := goodIn_app (goodIn_of _ (by decide +kernel)) ggX5_read_X5_readsCircuit
set_option maxRecDepth 20000 in
theorem ggX5_read_X5_isNext : GoodIn wsX5_read wsX5_isNext := goodIn_r _ [26, 1, 15, 16, 17, 9, 18, 2, 19, 60, 61, 62, 63, 64, 65, 66, 67, 68, 69, 70, 71] (by decide +kernel) (by decide +kernel)
set_option maxRecDepth 20000 in
theorem gX5_read_X5_isNext : GoodIn wsX5_read (wsV RX5 99 RX5 yX5_isNext wsX5_isNext) := goodIn_app (goodIn_of _ (by decide +kernel)) ggX5_read_X5_isNext
set_option maxRecDepth 20000 in
theorem ggX5_read_X5_setPart : GoodIn wsX5_read wsX5_setPart := goodIn_r _ [51, 44, 60, 61, 62, 63, 64, 65, 66, 67, 68, 69, 70, 71] (by decide +kernel) (by decide +kernel)
set_option maxRecDepth 20000 in
theorem gX5_read_X5_setPart : GoodIn wsX5_read (wsV RX5 31 RX5 yX5_setPart wsX5_setPart) := goodIn_app (goodIn_of _ (by decide +kernel)) ggX5_read_X5_setPart
set_option maxRecDepth 20000 in
theorem ggX5_read_X5_relaysWithBranches : GoodIn wsX5_read wsX5_relaysWithBranches := goodIn_r _ [55, 56, 57, 58, 9, 59, 44, 60, 61, 62, 63, 64, 65, 66, 67, 68, 69, 70, 71] (by decide +kernel) (by decide +kernel)
set_option maxRecDepth 20000 in
theorem gX5_read_X5_relaysWithBranches : GoodIn wsX5_read (wsV RX5 108 RX5 yX5_relaysWithBranches wsX5_relaysWithBranches) := goodIn_app (goodIn_of _ (by decide +kernel)) ggX5_read_X5_relaysWithBranches
theorem dX5_read_0 : decode cX5_read 0 = .ok (.aload_n 0, 1) := by decide +kernel
theorem dX5_read_1 : decode cX5_read 1 = .ok (.invokevirtual 86, 3) := by decide +kernel
theorem dX5_read_4 : decode cX5_read 4 = .ok (.bipush (-6), 2) := by decide +kernel
theorem dX5_read_6 : decode cX5_read 6 = .ok (.if_icmp .eq 6, 3) := by decide +kernel
theorem dX5_read_9 : decode cX5_read 9 = .ok (.bipush (-3), 2) := by decide +kernel
theorem dX5_read_11 : decode cX5_read 11 = .ok (.ireturn, 1) := by decide +kernel
theorem dX5_read_12 : decode cX5_read 12 = .ok (.aload_n 0, 1) := by decide +kernel
theorem dX5_read_13 : decode cX5_read 13 = .ok (.invokevirtual 83, 3) := by decide +kernel
theorem dX5_read_16 : decode cX5_read 16 = .ok (.aload_n 0, 1) := by decide +kernel
theorem dX5_read_17 : decode cX5_read 17 = .ok (.iconst 0, 1) := by decide +kernel
theorem dX5_read_18 : decode cX5_read 18 = .ok (.putfield 89, 3) := by decide +kernel
theorem dX5_read_21 : decode cX5_read 21 = .ok (.aload_n 0, 1) := by decide +kernel
theorem dX5_read_22 : decode cX5_read 22 = .ok (.getfield 89, 3) := by decide +kernel
theorem dX5_read_25 : decode cX5_read 25 = .ok (.aload_n 0, 1) := by decide +kernel
theorem dX5_read_26 : decode cX5_read 26 = .ok (.getfield 92, 3) := by decide +kernel
theorem dX5_read_29 : decode cX5_read 29 = .ok (.if_icmp .ge 76, 3) := by decide +kernel
theorem dX5_read_32 : decode cX5_read 32 = .ok (.aload_n 0, 1) := by decide +kernel
theorem dX5_read_33 : decode cX5_read 33 = .ok (.invokevirtual 95, 3) := by decide +kernel
theorem dX5_read_36 : decode cX5_read 36 = .ok (.pop, 1) := by decide +kernel
theorem dX5_read_37 : decode cX5_read 37 = .ok (.aload_n 0, 1) := by decide +kernel
theorem dX5_read_38 : decode cX5_read 38 = .ok (.bipush 59, 2) := by decide +kernel
theorem dX5_read_40 : decode cX5_read 40 = .ok (.invokevirtual 99, 3) := by decide +kernel
theorem dX5_read_43 : decode cX5_read 43 = .ok (.pop, 1) := by decide +kernel
theorem dX5_read_44 : decode cX5_read 44 = .ok (.aload_n 0, 1) := by decide +kernel
theorem dX5_read_45 : decode cX5_read 45 = .ok (.aload_n 0, 1) := by decide +kernel
theorem dX5_read_46 : decode cX5_read 46 = .ok (.getfield 102, 3) := by decide +kernel
theorem dX5_read_49 : decode cX5_read 49 = .ok (.iconst 4, 1) := by decide +kernel
theorem dX5_read_50 : decode cX5_read 50 = .ok (.aload_n 0, 1) := by decide +kernel
theorem dX5_read_51 : decode cX5_read 51 = .ok (.getfield 105, 3) := by decide +kernel
theorem dX5_read_54 : decode cX5_read 54 = .ok (.invokevirtual 31, 3) := by decide +kernel
theorem dX5_read_57 : decode cX5_read 57 = .ok (.iconst 0, 1) := by decide +kernel
theorem dX5_read_58 : decode cX5_read 58 = .ok (.istore_n 1, 1) := by decide +kernel
theorem dX5_read_59 : decode cX5_read 59 = .ok (.iload_n 1, 1) := by decide +kernel
theorem dX5_read_60 : decode cX5_read 60 = .ok (.bipush 18, 2) := by decide +kernel
theorem dX5_read_62 : decode cX5_read 62 = .ok (.if_icmp .ge 40, 3) := by decide +kernel
theorem dX5_read_65 : decode cX5_read 65 = .ok (.aload_n 0, 1) := by decide +kernel
theorem dX5_read_66 : decode cX5_read 66 = .ok (.aload_n 0, 1) := by decide +kernel
theorem dX5_read_67 : decode cX5_read 67 = .ok (.getfield 102, 3) := by decide +kernel
theorem dX5_read_70 : decode cX5_read 70 = .ok (.iconst 5, 1) := by decide +kernel
theorem dX5_read_71 : decode cX5_read 71 = .ok (.iload_n 1, 1) := by decide +kernel
theorem dX5_read_72 : decode cX5_read 72 = .ok (.iadd, 1) := by decide +kernel
theorem dX5_read_73 : decode cX5_read 73 = .ok (.iload_n 1, 1) := by decide +kernel
theorem dX5_read_74 : decode cX5_read 74 = .ok (.iconst 3, 1) := by decide +kernel
theorem dX5_read_75 : decode cX5_read 75 = .ok (.aload_n 0, 1) := by decide +kernel
theorem dX5_read_76 : decode cX5_read 76 = .ok (.getfield 105, 3) := by decide +kernel
theorem dX5_read_79 : decode cX5_read 79 = .ok (.imul, 1) := by decide +kernel
theorem dX5_read_80 : decode cX5_read 80 = .ok (.if_icmp .ge 12, 3) := by decide +kernel
theorem dX5_read_83 : decode cX5_read 83 = .ok (.aload_n 0, 1) := by decide +kernel
theorem dX5_read_84 : decode cX5_read 84 = .ok (.getfield 28, 3) := by decide +kernel
theorem dX5_read_87 : decode cX5_read 87 = .ok (.iload_n 1, 1) := by decide +kernel
theorem dX5_read_88 : decode cX5_read 88 = .ok (.iaload, 1) := by decide +kernel
theorem dX5_read_89 : decode cX5_read 89 = .ok (.goto 4, 3) := by decide +kernel
theorem dX5_read_92 : decode cX5_read 92 = .ok (.iconst 0, 1) := by decide +kernel
theorem dX5_read_93 : decode cX5_read 93 = .ok (.invokevirtual 31, 3) := by decide +kernel
theorem dX5_read_96 : decode cX5_read 96 = .ok (.iinc 1 1, 3) := by decide +kernel
theorem dX5_read_99 : decode cX5_read 99 = .ok (.goto (-40), 3) := by decide +kernel
theorem dX5_read_102 : decode cX5_read 102 = .ok (.goto (-81), 3) := by decide +kernel
theorem dX5_read_105 : decode cX5_read 105 = .ok (.aload_n 0, 1) := by decide +kernel
theorem dX5_read_106 : decode cX5_read 106 = .ok (.iconst 0, 1) := by decide +kernel
theorem dX5_read_107 : decode cX5_read 107 = .ok (.putfield 92, 3) := by decide +kernel
theorem dX5_read_110 : decode cX5_read 110 = .ok (.aload_n 0, 1) := by decide +kernel
theorem dX5_read_111 : decode cX5_read 111 = .ok (.invokevirtual 108, 3) := by decide +kernel
theorem dX5_read_114 : decode cX5_read 114 = .ok (.ireturn, 1) := by decide +kernel
set_option maxRecDepth 20000 in
theorem ggX5_press_X5_within : GoodIn wsX5_press wsX5_within := goodIn_r _ [5] (by decide +kernel) (by decide +kernel)
set_option maxRecDepth 20000 in
theorem gX5_press_X5_within : GoodIn wsX5_press (va_wsS RX5 43 yX5_within wsX5_within) := goodIn_app (goodIn_of _ (by decide +kernel)) ggX5_press_X5_within
set_option maxRecDepth 20000 in
theorem ggX5_press_X5_has : GoodIn wsX5_press wsX5_has := goodIn_r _ [8] (by decide +kernel) (by decide +kernel)
set_option maxRecDepth 20000 in
theorem gX5_press_X5_has : GoodIn wsX5_press (va_wsS RX5 67 yX5_has wsX5_has) := goodIn_app (goodIn_of _ (by decide +kernel)) ggX5_press_X5_has
set_option maxRecDepth 20000 in
theorem ggX5_press_X5_record : GoodIn wsX5_press wsX5_record := goodIn_r _ [12, 13, 14, 1, 15, 16, 4, 17, 42, 43, 44, 45, 46, 47, 48, 49, 50, 51, 52, 53] (by decide +kernel) (by decide +kernel)
set_option maxRecDepth 20000 in
theorem gX5_press_X5_record : GoodIn wsX5_press (wsV RX5 83 RX5 yX5_record wsX5_record) := goodIn_app (goodIn_of _ (by decide +kernel)) ggX5_press_X5_record
set_option maxRecDepth 20000 in
theorem ggX5_press_X5_wanting : GoodIn wsX5_press wsX5_wanting := goodIn_r _ [21, 1, 22, 23, 24, 4, 25, 26, 27, 28, 29, 30, 31, 32, 33, 34, 35, 36, 37, 38, 39, 40, 41, 42, 43, 44, 45, 46, 47, 48, 49, 50, 51, 52, 53] (by decide +kernel) (by decide +kernel)
set_option maxRecDepth 20000 in
theorem gX5_press_X5_wanting : GoodIn wsX5_press (wsV RX5 70 RX5 yX5_wanting wsX5_wanting) := goodIn_app (goodIn_of _ (by decide +kernel)) ggX5_press_X5_wanting
theorem dX5_press_0 : decode cX5_press 0 = .ok (.iload_n 1, 1) := by decide +kernel
theorem dX5_press_1 : decode cX5_press 1 = .ok (.iconst 0, 1) := by decide +kernel
theorem dX5_press_2 : decode cX5_press 2 = .ok (.iconst 5, 1) := by decide +kernel
theorem dX5_press_3 : decode cX5_press 3 = .ok (.invokestatic 43, 3) := by decide +kernel
theorem dX5_press_6 : decode cX5_press 6 = .ok (.ifCond .ne 5, 3) := by decide +kernel
theorem dX5_press_9 : decode cX5_press 9 = .ok (.iconst (-1), 1) := by decide +kernel
theorem dX5_press_10 : decode cX5_press 10 = .ok (.ireturn, 1) := by decide +kernel
theorem dX5_press_11 : decode cX5_press 11 = .ok (.aload_n 0, 1) := by decide +kernel
theorem dX5_press_12 : decode cX5_press 12 = .ok (.getfield 7, 3) := by decide +kernel
theorem dX5_press_15 : decode cX5_press 15 = .ok (.iconst 2, 1) := by decide +kernel
theorem dX5_press_16 : decode cX5_press 16 = .ok (.iaload, 1) := by decide +kernel
theorem dX5_press_17 : decode cX5_press 17 = .ok (.iload_n 1, 1) := by decide +kernel
theorem dX5_press_18 : decode cX5_press 18 = .ok (.invokestatic 67, 3) := by decide +kernel
theorem dX5_press_21 : decode cX5_press 21 = .ok (.iload_n 2, 1) := by decide +kernel
theorem dX5_press_22 : decode cX5_press 22 = .ok (.if_icmp .ne 6, 3) := by decide +kernel
theorem dX5_press_25 : decode cX5_press 25 = .ok (.bipush (-5), 2) := by decide +kernel
theorem dX5_press_27 : decode cX5_press 27 = .ok (.ireturn, 1) := by decide +kernel
theorem dX5_press_28 : decode cX5_press 28 = .ok (.aload_n 0, 1) := by decide +kernel
theorem dX5_press_29 : decode cX5_press 29 = .ok (.invokevirtual 83, 3) := by decide +kernel
theorem dX5_press_32 : decode cX5_press 32 = .ok (.aload_n 0, 1) := by decide +kernel
theorem dX5_press_33 : decode cX5_press 33 = .ok (.getfield 7, 3) := by decide +kernel
theorem dX5_press_36 : decode cX5_press 36 = .ok (.iconst 2, 1) := by decide +kernel
theorem dX5_press_37 : decode cX5_press 37 = .ok (.dup2, 1) := by decide +kernel
theorem dX5_press_38 : decode cX5_press 38 = .ok (.iaload, 1) := by decide +kernel
theorem dX5_press_39 : decode cX5_press 39 = .ok (.iconst 1, 1) := by decide +kernel
theorem dX5_press_40 : decode cX5_press 40 = .ok (.iload_n 1, 1) := by decide +kernel
theorem dX5_press_41 : decode cX5_press 41 = .ok (.ishl, 1) := by decide +kernel
theorem dX5_press_42 : decode cX5_press 42 = .ok (.ixor, 1) := by decide +kernel
theorem dX5_press_43 : decode cX5_press 43 = .ok (.iastore, 1) := by decide +kernel
theorem dX5_press_44 : decode cX5_press 44 = .ok (.aload_n 0, 1) := by decide +kernel
theorem dX5_press_45 : decode cX5_press 45 = .ok (.invokevirtual 70, 3) := by decide +kernel
theorem dX5_press_48 : decode cX5_press 48 = .ok (.ireturn, 1) := by decide +kernel
set_option maxRecDepth 20000 in
theorem ggX5_weld_X5_isRelay : GoodIn wsX5_weld wsX5_isRelay := goodIn_r _ [5, 6, 7, 4, 8] (by decide +kernel) (by decide +kernel)
set_option maxRecDepth 20000 in
theorem gX5_weld_X5_isRelay : GoodIn wsX5_weld (va_wsS RX5 80 yX5_isRelay wsX5_isRelay) := goodIn_app (goodIn_of _ (by decide +kernel)) ggX5_weld_X5_isRelay
set_option maxRecDepth 20000 in
theorem ggX5_weld_X5_has : GoodIn wsX5_weld wsX5_has := goodIn_r _ [11] (by decide +kernel) (by decide +kernel)
set_option maxRecDepth 20000 in
theorem gX5_weld_X5_has : GoodIn wsX5_weld (va_wsS RX5 67 yX5_has wsX5_has) := goodIn_app (goodIn_of _ (by decide +kernel)) ggX5_weld_X5_has
set_option maxRecDepth 20000 in
theorem ggX5_weld_X5_record : GoodIn wsX5_weld wsX5_record := goodIn_r _ [15, 16, 17, 1, 18, 19, 4, 20, 29, 30, 31, 32, 33, 34, 35, 36, 37, 38, 39, 40] (by decide +kernel) (by decide +kernel)
set_option maxRecDepth 20000 in
theorem gX5_weld_X5_record : GoodIn wsX5_weld (wsV RX5 83 RX5 yX5_record wsX5_record) := goodIn_app (goodIn_of _ (by decide +kernel)) ggX5_weld_X5_record
set_option maxRecDepth 20000 in
theorem ggX5_weld_X5_part : GoodIn wsX5_weld wsX5_part := goodIn_r _ [24, 1, 29, 30, 31, 32, 33, 34, 35, 36, 37, 38, 39, 40] (by decide +kernel) (by decide +kernel)
set_option maxRecDepth 20000 in
theorem gX5_weld_X5_part : GoodIn wsX5_weld (wsV RX5 47 RX5 yX5_part wsX5_part) := goodIn_app (goodIn_of _ (by decide +kernel)) ggX5_weld_X5_part
set_option maxRecDepth 20000 in
theorem ggX5_weld_X5_setPart : GoodIn wsX5_weld wsX5_setPart := goodIn_r _ [28, 1, 29, 30, 31, 32, 33, 34, 35, 36, 37, 38, 39, 40] (by decide +kernel) (by decide +kernel)
set_option maxRecDepth 20000 in
theorem gX5_weld_X5_setPart : GoodIn wsX5_weld (wsV RX5 31 RX5 yX5_setPart wsX5_setPart) := goodIn_app (goodIn_of _ (by decide +kernel)) ggX5_weld_X5_setPart
theorem dX5_weld_0 : decode cX5_weld 0 = .ok (.iload_n 1, 1) := by decide +kernel
theorem dX5_weld_1 : decode cX5_weld 1 = .ok (.invokestatic 80, 3) := by decide +kernel
theorem dX5_weld_4 : decode cX5_weld 4 = .ok (.ifCond .ne 5, 3) := by decide +kernel
theorem dX5_weld_7 : decode cX5_weld 7 = .ok (.iconst (-1), 1) := by decide +kernel
theorem dX5_weld_8 : decode cX5_weld 8 = .ok (.ireturn, 1) := by decide +kernel
theorem dX5_weld_9 : decode cX5_weld 9 = .ok (.aload_n 0, 1) := by decide +kernel
theorem dX5_weld_10 : decode cX5_weld 10 = .ok (.getfield 7, 3) := by decide +kernel
theorem dX5_weld_13 : decode cX5_weld 13 = .ok (.iconst 1, 1) := by decide +kernel
theorem dX5_weld_14 : decode cX5_weld 14 = .ok (.iaload, 1) := by decide +kernel
theorem dX5_weld_15 : decode cX5_weld 15 = .ok (.iload_n 1, 1) := by decide +kernel
theorem dX5_weld_16 : decode cX5_weld 16 = .ok (.invokestatic 67, 3) := by decide +kernel
theorem dX5_weld_19 : decode cX5_weld 19 = .ok (.iload_n 2, 1) := by decide +kernel
theorem dX5_weld_20 : decode cX5_weld 20 = .ok (.if_icmp .eq 20, 3) := by decide +kernel
theorem dX5_weld_23 : decode cX5_weld 23 = .ok (.iload_n 2, 1) := by decide +kernel
theorem dX5_weld_24 : decode cX5_weld 24 = .ok (.ifCond .eq 19, 3) := by decide +kernel
theorem dX5_weld_27 : decode cX5_weld 27 = .ok (.aload_n 0, 1) := by decide +kernel
theorem dX5_weld_28 : decode cX5_weld 28 = .ok (.getfield 7, 3) := by decide +kernel
theorem dX5_weld_31 : decode cX5_weld 31 = .ok (.iconst 0, 1) := by decide +kernel
theorem dX5_weld_32 : decode cX5_weld 32 = .ok (.iaload, 1) := by decide +kernel
theorem dX5_weld_33 : decode cX5_weld 33 = .ok (.iload_n 1, 1) := by decide +kernel
theorem dX5_weld_34 : decode cX5_weld 34 = .ok (.invokestatic 67, 3) := by decide +kernel
theorem dX5_weld_37 : decode cX5_weld 37 = .ok (.ifCond .ne 6, 3) := by decide +kernel
theorem dX5_weld_40 : decode cX5_weld 40 = .ok (.bipush (-5), 2) := by decide +kernel
theorem dX5_weld_42 : decode cX5_weld 42 = .ok (.ireturn, 1) := by decide +kernel
theorem dX5_weld_43 : decode cX5_weld 43 = .ok (.aload_n 0, 1) := by decide +kernel
theorem dX5_weld_44 : decode cX5_weld 44 = .ok (.invokevirtual 83, 3) := by decide +kernel
theorem dX5_weld_47 : decode cX5_weld 47 = .ok (.aload_n 0, 1) := by decide +kernel
theorem dX5_weld_48 : decode cX5_weld 48 = .ok (.iload_n 1, 1) := by decide +kernel
theorem dX5_weld_49 : decode cX5_weld 49 = .ok (.iconst 3, 1) := by decide +kernel
theorem dX5_weld_50 : decode cX5_weld 50 = .ok (.invokevirtual 47, 3) := by decide +kernel
theorem dX5_weld_53 : decode cX5_weld 53 = .ok (.istore_n 3, 1) := by decide +kernel
theorem dX5_weld_54 : decode cX5_weld 54 = .ok (.aload_n 0, 1) := by decide +kernel
theorem dX5_weld_55 : decode cX5_weld 55 = .ok (.getfield 7, 3) := by decide +kernel
theorem dX5_weld_58 : decode cX5_weld 58 = .ok (.iconst 1, 1) := by decide +kernel
theorem dX5_weld_59 : decode cX5_weld 59 = .ok (.dup2, 1) := by decide +kernel
theorem dX5_weld_60 : decode cX5_weld 60 = .ok (.iaload, 1) := by decide +kernel
theorem dX5_weld_61 : decode cX5_weld 61 = .ok (.iconst 1, 1) := by decide +kernel
theorem dX5_weld_62 : decode cX5_weld 62 = .ok (.iload_n 1, 1) := by decide +kernel
theorem dX5_weld_63 : decode cX5_weld 63 = .ok (.ishl, 1) := by decide +kernel
theorem dX5_weld_64 : decode cX5_weld 64 = .ok (.ixor, 1) := by decide +kernel
theorem dX5_weld_65 : decode cX5_weld 65 = .ok (.iastore, 1) := by decide +kernel
theorem dX5_weld_66 : decode cX5_weld 66 = .ok (.iload_n 2, 1) := by decide +kernel
theorem dX5_weld_67 : decode cX5_weld 67 = .ok (.ifCond .ne 10, 3) := by decide +kernel
theorem dX5_weld_70 : decode cX5_weld 70 = .ok (.aload_n 0, 1) := by decide +kernel
theorem dX5_weld_71 : decode cX5_weld 71 = .ok (.iload_n 1, 1) := by decide +kernel
theorem dX5_weld_72 : decode cX5_weld 72 = .ok (.iconst 3, 1) := by decide +kernel
theorem dX5_weld_73 : decode cX5_weld 73 = .ok (.iconst 0, 1) := by decide +kernel
theorem dX5_weld_74 : decode cX5_weld 74 = .ok (.invokevirtual 31, 3) := by decide +kernel
theorem dX5_weld_77 : decode cX5_weld 77 = .ok (.iload_n 3, 1) := by decide +kernel
theorem dX5_weld_78 : decode cX5_weld 78 = .ok (.ireturn, 1) := by decide +kernel
set_option maxRecDepth 20000 in
theorem ggX5_passes_X5_tick : GoodIn wsX5_passes wsX5_tick := goodIn_r _ [6, 1, 7, 8, 9, 5, 10, 11, 12, 13, 14, 15, 16, 17, 18, 19, 20, 21, 22, 23, 24, 25, 26, 27, 28, 29, 30, 31, 32, 33, 34, 35, 36, 37, 38, 39, 40, 41, 42, 43, 44, 45, 46, 47, 48, 49, 50, 51, 52, 53] (by decide +kernel) (by decide +kernel)
set_option maxRecDepth 20000 in
theorem gX5_passes_X5_tick : GoodIn wsX5_passes (wsV RX5 77 RX5 yX5_tick wsX5_tick) := goodIn_app (goodIn_of _ (by decide +kernel)) ggX5_passes_X5_tick
theorem dX5_passes_0 : decode cX5_passes 0 = .ok (.aload_n 0, 1) := by decide +kernel
theorem dX5_passes_1 : decode cX5_passes 1 = .ok (.getfield 7, 3) := by decide +kernel
theorem dX5_passes_4 : decode cX5_passes 4 = .ok (.iconst 4, 1) := by decide +kernel
theorem dX5_passes_5 : decode cX5_passes 5 = .ok (.iaload, 1) := by decide +kernel
theorem dX5_passes_6 : decode cX5_passes 6 = .ok (.istore_n 2, 1) := by decide +kernel
theorem dX5_passes_7 : decode cX5_passes 7 = .ok (.iconst 0, 1) := by decide +kernel
theorem dX5_passes_8 : decode cX5_passes 8 = .ok (.istore_n 3, 1) := by decide +kernel
theorem dX5_passes_9 : decode cX5_passes 9 = .ok (.iload_n 3, 1) := by decide +kernel
theorem dX5_passes_10 : decode cX5_passes 10 = .ok (.iload_n 1, 1) := by decide +kernel
theorem dX5_passes_11 : decode cX5_passes 11 = .ok (.if_icmp .ge 13, 3) := by decide +kernel
theorem dX5_passes_14 : decode cX5_passes 14 = .ok (.aload_n 0, 1) := by decide +kernel
theorem dX5_passes_15 : decode cX5_passes 15 = .ok (.invokevirtual 77, 3) := by decide +kernel
theorem dX5_passes_18 : decode cX5_passes 18 = .ok (.iinc 3 1, 3) := by decide +kernel
theorem dX5_passes_21 : decode cX5_passes 21 = .ok (.goto (-12), 3) := by decide +kernel
theorem dX5_passes_24 : decode cX5_passes 24 = .ok (.aload_n 0, 1) := by decide +kernel
theorem dX5_passes_25 : decode cX5_passes 25 = .ok (.getfield 7, 3) := by decide +kernel
theorem dX5_passes_28 : decode cX5_passes 28 = .ok (.iconst 4, 1) := by decide +kernel
theorem dX5_passes_29 : decode cX5_passes 29 = .ok (.iaload, 1) := by decide +kernel
theorem dX5_passes_30 : decode cX5_passes 30 = .ok (.iload_n 2, 1) := by decide +kernel
theorem dX5_passes_31 : decode cX5_passes 31 = .ok (.isub, 1) := by decide +kernel
theorem dX5_passes_32 : decode cX5_passes 32 = .ok (.ireturn, 1) := by decide +kernel
set_option maxRecDepth 20000 in
theorem ggX5_pass_X5_within : GoodIn wsX5_pass wsX5_within := goodIn_r _ [4] (by decide +kernel) (by decide +kernel)
set_option maxRecDepth 20000 in
theorem gX5_pass_X5_within : GoodIn wsX5_pass (va_wsS RX5 43 yX5_within wsX5_within) := goodIn_app (goodIn_of _ (by decide +kernel)) ggX5_pass_X5_within
set_option maxRecDepth 20000 in
theorem ggX5_pass_X5_record : GoodIn wsX5_pass wsX5_record := goodIn_r _ [8, 9, 10, 11, 12, 13, 3, 14, 58, 59, 60, 61, 62, 63, 64, 65, 66, 67, 68, 69] (by decide +kernel) (by decide +kernel)
set_option maxRecDepth 20000 in
theorem gX5_pass_X5_record : GoodIn wsX5_pass (wsV RX5 83 RX5 yX5_record wsX5_record) := goodIn_app (goodIn_of _ (by decide +kernel)) ggX5_pass_X5_record
set_option maxRecDepth 20000 in
theorem ggX5_pass_X5_passes : GoodIn wsX5_pass wsX5_passes := goodIn_r _ [18, 11, 19, 20, 21, 3, 22, 23, 24, 25, 26, 27, 28, 29, 30, 31, 32, 33, 34, 35, 36, 37, 38, 39, 40, 41, 42, 43, 44, 45, 46, 47, 48, 49, 50, 51, 52, 53, 54, 55, 56, 57, 58, 59, 60, 61, 62, 63, 64, 65, 66, 67, 68, 69] (by decide +kernel) (by decide +kernel)
set_option maxRecDepth 20000 in
theorem gX5_pass_X5_passes : GoodIn wsX5_pass (wsV RX5 111 RX5 yX5_passes wsX5_passes) := goodIn_app (goodIn_of _ (by decide +kernel)) ggX5_pass_X5_passes
theorem dX5_pass_0 : decode cX5_pass 0 = .ok (.iload_n 1, 1) := by decide +kernel
theorem dX5_pass_1 : decode cX5_pass 1 = .ok (.iconst 1, 1) := by decide +kernel
theorem dX5_pass_2 : decode cX5_pass 2 = .ok (.sipush 200, 3) := by decide +kernel
theorem dX5_pass_5 : decode cX5_pass 5 = .ok (.invokestatic 43, 3) := by decide +kernel
theorem dX5_pass_8 : decode cX5_pass 8 = .ok (.ifCond .ne 6, 3) := by decide +kernel
theorem dX5_pass_11 : decode cX5_pass 11 = .ok (.bipush (-2), 2) := by decide +kernel
theorem dX5_pass_13 : decode cX5_pass 13 = .ok (.ireturn, 1) := by decide +kernel
theorem dX5_pass_14 : decode cX5_pass 14 = .ok (.aload_n 0, 1) := by decide +kernel
theorem dX5_pass_15 : decode cX5_pass 15 = .ok (.invokevirtual 83, 3) := by decide +kernel
theorem dX5_pass_18 : decode cX5_pass 18 = .ok (.aload_n 0, 1) := by decide +kernel
theorem dX5_pass_19 : decode cX5_pass 19 = .ok (.iload_n 1, 1) := by decide +kernel
theorem dX5_pass_20 : decode cX5_pass 20 = .ok (.invokevirtual 111, 3) := by decide +kernel
theorem dX5_pass_23 : decode cX5_pass 23 = .ok (.ireturn, 1) := by decide +kernel
set_option maxRecDepth 20000 in
theorem ggX5_settle_X5_record : GoodIn wsX5_settle wsX5_record := goodIn_r _ [5, 6, 7, 8, 9, 10, 4, 11, 55, 56, 57, 58, 59, 60, 61, 62, 63, 64, 65, 66] (by decide +kernel) (by decide +kernel)
set_option maxRecDepth 20000 in
theorem gX5_settle_X5_record : GoodIn wsX5_settle (wsV RX5 83 RX5 yX5_record wsX5_record) := goodIn_app (goodIn_of _ (by decide +kernel)) ggX5_settle_X5_record
set_option maxRecDepth 20000 in
theorem ggX5_settle_X5_settles : GoodIn wsX5_settle wsX5_settles := goodIn_r _ [15, 16, 17, 18, 4, 19, 8, 20, 21, 22, 23, 24, 25, 26, 27, 28, 29, 30, 31, 32, 33, 34, 35, 36, 37, 38, 39, 40, 41, 42, 43, 44, 45, 46, 47, 48, 49, 50, 51, 52, 53, 54, 55, 56, 57, 58, 59, 60, 61, 62, 63, 64, 65, 66] (by decide +kernel) (by decide +kernel)
set_option maxRecDepth 20000 in
theorem gX5_settle_X5_settles : GoodIn wsX5_settle (wsV RX5 115 RX5 yX5_settles wsX5_settles) := goodIn_app (goodIn_of _ (by decide +kernel)) ggX5_settle_X5_settles
set_option maxRecDepth 20000 in
theorem ggX5_settle_X5_wanting : GoodIn wsX5_settle wsX5_wanting := goodIn_r _ [19, 8, 20, 21, 22, 4, 23, 24, 25, 26, 27, 28, 29, 30, 31, 32, 33, 34, 35, 36, 37, 38, 39, 55, 56, 57, 58, 59, 60, 61, 62, 63, 64, 65, 66] (by decide +kernel) (by decide +kernel)
set_option maxRecDepth 20000 in
theorem gX5_settle_X5_wanting : GoodIn wsX5_settle (wsV RX5 70 RX5 yX5_wanting wsX5_wanting) := goodIn_app (goodIn_of _ (by decide +kernel)) ggX5_settle_X5_wanting
theorem dX5_settle_0 : decode cX5_settle 0 = .ok (.aload_n 0, 1) := by decide +kernel
theorem dX5_settle_1 : decode cX5_settle 1 = .ok (.invokevirtual 83, 3) := by decide +kernel
theorem dX5_settle_4 : decode cX5_settle 4 = .ok (.aload_n 0, 1) := by decide +kernel
theorem dX5_settle_5 : decode cX5_settle 5 = .ok (.invokevirtual 115, 3) := by decide +kernel
theorem dX5_settle_8 : decode cX5_settle 8 = .ok (.istore_n 1, 1) := by decide +kernel
theorem dX5_settle_9 : decode cX5_settle 9 = .ok (.aload_n 0, 1) := by decide +kernel
theorem dX5_settle_10 : decode cX5_settle 10 = .ok (.invokevirtual 70, 3) := by decide +kernel
theorem dX5_settle_13 : decode cX5_settle 13 = .ok (.ifCond .ne 7, 3) := by decide +kernel
theorem dX5_settle_16 : decode cX5_settle 16 = .ok (.iload_n 1, 1) := by decide +kernel
theorem dX5_settle_17 : decode cX5_settle 17 = .ok (.goto 8, 3) := by decide +kernel
theorem dX5_settle_20 : decode cX5_settle 20 = .ok (.iload_n 1, 1) := by decide +kernel
theorem dX5_settle_21 : decode cX5_settle 21 = .ok (.sipush 1000, 3) := by decide +kernel
theorem dX5_settle_24 : decode cX5_settle 24 = .ok (.iadd, 1) := by decide +kernel
theorem dX5_settle_25 : decode cX5_settle 25 = .ok (.ireturn, 1) := by decide +kernel
set_option maxRecDepth 20000 in
theorem ggX5_holdsItself_X5_part : GoodIn wsX5_holdsItself wsX5_part := goodIn_r _ [5, 6, 14, 15, 16, 17, 18, 19, 20, 21, 22, 23, 24, 25] (by decide +kernel) (by decide +kernel)
set_option maxRecDepth 20000 in
theorem gX5_holdsItself_X5_part : GoodIn wsX5_holdsItself (wsV RX5 47 RX5 yX5_part wsX5_part) := goodIn_app (goodIn_of _ (by decide +kernel)) ggX5_holdsItself_X5_part
set_option maxRecDepth 20000 in
theorem ggX5_holdsItself_X5_ofBranch : GoodIn wsX5_holdsItself wsX5_ofBranch := goodIn_r _ [10, 1, 2, 3, 4, 5, 6, 14, 15, 16, 17, 18, 19, 20, 21, 22, 23, 24, 25] (by decide +kernel) (by decide +kernel)
set_option maxRecDepth 20000 in
theorem gX5_holdsItself_X5_ofBranch : GoodIn wsX5_holdsItself (wsV RX5 51 RX5 yX5_ofBranch wsX5_ofBranch) := goodIn_app (goodIn_of _ (by decide +kernel)) ggX5_holdsItself_X5_ofBranch
set_option maxRecDepth 20000 in
theorem ggX5_holdsItself_X5_has : GoodIn wsX5_holdsItself wsX5_has := goodIn_r _ [13] (by decide +kernel) (by decide +kernel)
set_option maxRecDepth 20000 in
theorem gX5_holdsItself_X5_has : GoodIn wsX5_holdsItself (va_wsS RX5 67 yX5_has wsX5_has) := goodIn_app (goodIn_of _ (by decide +kernel)) ggX5_holdsItself_X5_has
theorem dX5_holdsItself_0 : decode cX5_holdsItself 0 = .ok (.iconst 0, 1) := by decide +kernel
theorem dX5_holdsItself_1 : decode cX5_holdsItself 1 = .ok (.istore_n 2, 1) := by decide +kernel
theorem dX5_holdsItself_2 : decode cX5_holdsItself 2 = .ok (.iconst 0, 1) := by decide +kernel
theorem dX5_holdsItself_3 : decode cX5_holdsItself 3 = .ok (.istore_n 3, 1) := by decide +kernel
theorem dX5_holdsItself_4 : decode cX5_holdsItself 4 = .ok (.iload_n 3, 1) := by decide +kernel
theorem dX5_holdsItself_5 : decode cX5_holdsItself 5 = .ok (.aload_n 0, 1) := by decide +kernel
theorem dX5_holdsItself_6 : decode cX5_holdsItself 6 = .ok (.iload_n 1, 1) := by decide +kernel
theorem dX5_holdsItself_7 : decode cX5_holdsItself 7 = .ok (.iconst 4, 1) := by decide +kernel
theorem dX5_holdsItself_8 : decode cX5_holdsItself 8 = .ok (.invokevirtual 47, 3) := by decide +kernel
theorem dX5_holdsItself_11 : decode cX5_holdsItself 11 = .ok (.if_icmp .ge 33, 3) := by decide +kernel
theorem dX5_holdsItself_14 : decode cX5_holdsItself 14 = .ok (.iload_n 2, 1) := by decide +kernel
theorem dX5_holdsItself_15 : decode cX5_holdsItself 15 = .ok (.ifCond .ne 17, 3) := by decide +kernel
theorem dX5_holdsItself_18 : decode cX5_holdsItself 18 = .ok (.aload_n 0, 1) := by decide +kernel
theorem dX5_holdsItself_19 : decode cX5_holdsItself 19 = .ok (.iload_n 1, 1) := by decide +kernel
theorem dX5_holdsItself_20 : decode cX5_holdsItself 20 = .ok (.iload_n 3, 1) := by decide +kernel
theorem dX5_holdsItself_21 : decode cX5_holdsItself 21 = .ok (.iconst 0, 1) := by decide +kernel
theorem dX5_holdsItself_22 : decode cX5_holdsItself 22 = .ok (.invokevirtual 51, 3) := by decide +kernel
theorem dX5_holdsItself_25 : decode cX5_holdsItself 25 = .ok (.iload_n 1, 1) := by decide +kernel
theorem dX5_holdsItself_26 : decode cX5_holdsItself 26 = .ok (.invokestatic 67, 3) := by decide +kernel
theorem dX5_holdsItself_29 : decode cX5_holdsItself 29 = .ok (.ifCond .eq 7, 3) := by decide +kernel
theorem dX5_holdsItself_32 : decode cX5_holdsItself 32 = .ok (.iconst 1, 1) := by decide +kernel
theorem dX5_holdsItself_33 : decode cX5_holdsItself 33 = .ok (.goto 4, 3) := by decide +kernel
theorem dX5_holdsItself_36 : decode cX5_holdsItself 36 = .ok (.iconst 0, 1) := by decide +kernel
theorem dX5_holdsItself_37 : decode cX5_holdsItself 37 = .ok (.istore_n 2, 1) := by decide +kernel
theorem dX5_holdsItself_38 : decode cX5_holdsItself 38 = .ok (.iinc 3 1, 3) := by decide +kernel
theorem dX5_holdsItself_41 : decode cX5_holdsItself 41 = .ok (.goto (-37), 3) := by decide +kernel
theorem dX5_holdsItself_44 : decode cX5_holdsItself 44 = .ok (.iload_n 2, 1) := by decide +kernel
theorem dX5_holdsItself_45 : decode cX5_holdsItself 45 = .ok (.ireturn, 1) := by decide +kernel
set_option maxRecDepth 20000 in
theorem ggX5_relaysWith_X5_part : GoodIn wsX5_relaysWith wsX5_part := goodIn_r _ [5, 6, 14, 15, 16, 17, 18, 19, 20, 21, 22, 23, 24, 25] (by decide +kernel) (by decide +kernel)
set_option maxRecDepth 20000 in
theorem gX5_relaysWith_X5_part : GoodIn wsX5_relaysWith (wsV RX5 47 RX5 yX5_part wsX5_part) := goodIn_app (goodIn_of _ (by decide +kernel)) ggX5_relaysWith_X5_part
set_option maxRecDepth 20000 in
theorem ggX5_relaysWith_X5_ofBranch : GoodIn wsX5_relaysWith wsX5_ofBranch := goodIn_r _ [10, 1, 2, 3, 4, 5, 6, 14, 15, 16, 17, 18, 19, 20, 21, 22, 23, 24, 25] (by decide +kernel) (by decide +kernel)
set_option maxRecDepth 20000 in
theorem gX5_relaysWith_X5_ofBranch : GoodIn wsX5_relaysWith (wsV RX5 51 RX5 yX5_ofBranch wsX5_ofBranch) := goodIn_app (goodIn_of _ (by decide +kernel)) ggX5_relaysWith_X5_ofBranch
set_option maxRecDepth 20000 in
theorem ggX5_relaysWith_X5_has : GoodIn wsX5_relaysWith wsX5_has := goodIn_r _ [13] (by decide +kernel) (by decide +kernel)
set_option maxRecDepth 20000 in
theorem gX5_relaysWith_X5_has : GoodIn wsX5_relaysWith (va_wsS RX5 67 yX5_has wsX5_has) := goodIn_app (goodIn_of _ (by decide +kernel)) ggX5_relaysWith_X5_has
theorem dX5_relaysWith_0 : decode cX5_relaysWith 0 = .ok (.iconst 0, 1) := by decide +kernel
theorem dX5_relaysWith_1 : decode cX5_relaysWith 1 = .ok (.istore_n 2, 1) := by decide +kernel
theorem dX5_relaysWith_2 : decode cX5_relaysWith 2 = .ok (.iconst 0, 1) := by decide +kernel
theorem dX5_relaysWith_3 : decode cX5_relaysWith 3 = .ok (.istore_n 3, 1) := by decide +kernel
theorem dX5_relaysWith_4 : decode cX5_relaysWith 4 = .ok (.iload_n 3, 1) := by decide +kernel
theorem dX5_relaysWith_5 : decode cX5_relaysWith 5 = .ok (.bipush 10, 2) := by decide +kernel
theorem dX5_relaysWith_7 : decode cX5_relaysWith 7 = .ok (.if_icmp .ge 63, 3) := by decide +kernel
theorem dX5_relaysWith_10 : decode cX5_relaysWith 10 = .ok (.iconst 0, 1) := by decide +kernel
theorem dX5_relaysWith_11 : decode cX5_relaysWith 11 = .ok (.istore 4, 2) := by decide +kernel
theorem dX5_relaysWith_13 : decode cX5_relaysWith 13 = .ok (.iload 4, 2) := by decide +kernel
theorem dX5_relaysWith_15 : decode cX5_relaysWith 15 = .ok (.aload_n 0, 1) := by decide +kernel
theorem dX5_relaysWith_16 : decode cX5_relaysWith 16 = .ok (.iload_n 3, 1) := by decide +kernel
theorem dX5_relaysWith_17 : decode cX5_relaysWith 17 = .ok (.iconst 4, 1) := by decide +kernel
theorem dX5_relaysWith_18 : decode cX5_relaysWith 18 = .ok (.invokevirtual 47, 3) := by decide +kernel
theorem dX5_relaysWith_21 : decode cX5_relaysWith 21 = .ok (.if_icmp .ge 43, 3) := by decide +kernel
theorem dX5_relaysWith_24 : decode cX5_relaysWith 24 = .ok (.iload_n 2, 1) := by decide +kernel
theorem dX5_relaysWith_25 : decode cX5_relaysWith 25 = .ok (.aload_n 0, 1) := by decide +kernel
theorem dX5_relaysWith_26 : decode cX5_relaysWith 26 = .ok (.iload_n 3, 1) := by decide +kernel
theorem dX5_relaysWith_27 : decode cX5_relaysWith 27 = .ok (.iload 4, 2) := by decide +kernel
theorem dX5_relaysWith_29 : decode cX5_relaysWith 29 = .ok (.iconst 0, 1) := by decide +kernel
theorem dX5_relaysWith_30 : decode cX5_relaysWith 30 = .ok (.invokevirtual 51, 3) := by decide +kernel
theorem dX5_relaysWith_33 : decode cX5_relaysWith 33 = .ok (.aload_n 0, 1) := by decide +kernel
theorem dX5_relaysWith_34 : decode cX5_relaysWith 34 = .ok (.iload_n 3, 1) := by decide +kernel
theorem dX5_relaysWith_35 : decode cX5_relaysWith 35 = .ok (.iload 4, 2) := by decide +kernel
theorem dX5_relaysWith_37 : decode cX5_relaysWith 37 = .ok (.iconst 1, 1) := by decide +kernel
theorem dX5_relaysWith_38 : decode cX5_relaysWith 38 = .ok (.invokevirtual 51, 3) := by decide +kernel
theorem dX5_relaysWith_41 : decode cX5_relaysWith 41 = .ok (.ior, 1) := by decide +kernel
theorem dX5_relaysWith_42 : decode cX5_relaysWith 42 = .ok (.iload_n 1, 1) := by decide +kernel
theorem dX5_relaysWith_43 : decode cX5_relaysWith 43 = .ok (.invokestatic 67, 3) := by decide +kernel
theorem dX5_relaysWith_46 : decode cX5_relaysWith 46 = .ok (.ifCond .eq 9, 3) := by decide +kernel
theorem dX5_relaysWith_49 : decode cX5_relaysWith 49 = .ok (.iconst 1, 1) := by decide +kernel
theorem dX5_relaysWith_50 : decode cX5_relaysWith 50 = .ok (.iload_n 3, 1) := by decide +kernel
theorem dX5_relaysWith_51 : decode cX5_relaysWith 51 = .ok (.ishl, 1) := by decide +kernel
theorem dX5_relaysWith_52 : decode cX5_relaysWith 52 = .ok (.goto 4, 3) := by decide +kernel
theorem dX5_relaysWith_55 : decode cX5_relaysWith 55 = .ok (.iconst 0, 1) := by decide +kernel
theorem dX5_relaysWith_56 : decode cX5_relaysWith 56 = .ok (.ior, 1) := by decide +kernel
theorem dX5_relaysWith_57 : decode cX5_relaysWith 57 = .ok (.istore_n 2, 1) := by decide +kernel
theorem dX5_relaysWith_58 : decode cX5_relaysWith 58 = .ok (.iinc 4 1, 3) := by decide +kernel
theorem dX5_relaysWith_61 : decode cX5_relaysWith 61 = .ok (.goto (-48), 3) := by decide +kernel
theorem dX5_relaysWith_64 : decode cX5_relaysWith 64 = .ok (.iinc 3 1, 3) := by decide +kernel
theorem dX5_relaysWith_67 : decode cX5_relaysWith 67 = .ok (.goto (-63), 3) := by decide +kernel
theorem dX5_relaysWith_70 : decode cX5_relaysWith 70 = .ok (.iload_n 2, 1) := by decide +kernel
theorem dX5_relaysWith_71 : decode cX5_relaysWith 71 = .ok (.ireturn, 1) := by decide +kernel
set_option maxRecDepth 20000 in
theorem ggX5_relay_X5_isRelay : GoodIn wsX5_relay wsX5_isRelay := goodIn_r _ [5, 6, 7, 4, 8] (by decide +kernel) (by decide +kernel)
set_option maxRecDepth 20000 in
theorem gX5_relay_X5_isRelay : GoodIn wsX5_relay (va_wsS RX5 80 yX5_isRelay wsX5_isRelay) := goodIn_app (goodIn_of _ (by decide +kernel)) ggX5_relay_X5_isRelay
set_option maxRecDepth 20000 in
theorem ggX5_relay_X5_isFed : GoodIn wsX5_relay wsX5_isFed := goodIn_r _ [12, 13, 14, 15, 4, 16, 1, 17, 18, 19, 20, 21, 22, 23, 24, 44, 45, 46, 47, 48, 49, 50, 51, 52, 53, 54, 55] (by decide +kernel) (by decide +kernel)
set_option maxRecDepth 20000 in
theorem gX5_relay_X5_isFed : GoodIn wsX5_relay (wsV RX5 59 RX5 yX5_isFed wsX5_isFed) := goodIn_app (goodIn_of _ (by decide +kernel)) ggX5_relay_X5_isFed
set_option maxRecDepth 20000 in
theorem ggX5_relay_X5_wanting : GoodIn wsX5_relay wsX5_wanting := goodIn_r _ [28, 1, 29, 30, 31, 4, 32, 9, 10, 11, 12, 13, 14, 15, 16, 17, 18, 19, 20, 21, 22, 23, 24, 44, 45, 46, 47, 48, 49, 50, 51, 52, 53, 54, 55] (by decide +kernel) (by decide +kernel)
set_option maxRecDepth 20000 in
theorem gX5_relay_X5_wanting : GoodIn wsX5_relay (wsV RX5 70 RX5 yX5_wanting wsX5_wanting) := goodIn_app (goodIn_of _ (by decide +kernel)) ggX5_relay_X5_wanting
set_option maxRecDepth 20000 in
theorem ggX5_relay_X5_part : GoodIn wsX5_relay wsX5_part := goodIn_r _ [16, 1, 44, 45, 46, 47, 48, 49, 50, 51, 52, 53, 54, 55] (by decide +kernel) (by decide +kernel)
set_option maxRecDepth 20000 in
theorem gX5_relay_X5_part : GoodIn wsX5_relay (wsV RX5 47 RX5 yX5_part wsX5_part) := goodIn_app (goodIn_of _ (by decide +kernel)) ggX5_relay_X5_part
set_option maxRecDepth 20000 in
theorem ggX5_relay_X5_holdsItself : GoodIn wsX5_relay wsX5_holdsItself := goodIn_r _ [36, 13, 14, 15, 4, 16, 1, 21, 22, 23, 24, 37, 38, 39, 44, 45, 46, 47, 48, 49, 50, 51, 52, 53, 54, 55] (by decide +kernel) (by decide +kernel)
set_option maxRecDepth 20000 in
theorem gX5_relay_X5_holdsItself : GoodIn wsX5_relay (wsV RX5 118 RX5 yX5_holdsItself wsX5_holdsItself) := goodIn_app (goodIn_of _ (by decide +kernel)) ggX5_relay_X5_holdsItself
set_option maxRecDepth 20000 in
theorem ggX5_relay_X5_relaysWith : GoodIn wsX5_relay wsX5_relaysWith := goodIn_r _ [43, 13, 14, 15, 4, 16, 1, 21, 22, 23, 24, 37, 38, 39, 44, 45, 46, 47, 48, 49, 50, 51, 52, 53, 54, 55] (by decide +kernel) (by decide +kernel)
set_option maxRecDepth 20000 in
theorem gX5_relay_X5_relaysWith : GoodIn wsX5_relay (wsV RX5 121 RX5 yX5_relaysWith wsX5_relaysWith) := goodIn_app (goodIn_of _ (by decide +kernel)) ggX5_relay_X5_relaysWith
theorem dX5_relay_0 : decode cX5_relay 0 = .ok (.iload_n 1, 1) := by decide +kernel
theorem dX5_relay_1 : decode cX5_relay 1 = .ok (.invokestatic 80, 3) := by decide +kernel
theorem dX5_relay_4 : decode cX5_relay 4 = .ok (.ifCond .ne 5, 3) := by decide +kernel
theorem dX5_relay_7 : decode cX5_relay 7 = .ok (.iconst (-1), 1) := by decide +kernel
theorem dX5_relay_8 : decode cX5_relay 8 = .ok (.ireturn, 1) := by decide +kernel
theorem dX5_relay_9 : decode cX5_relay 9 = .ok (.iload_n 2, 1) := by decide +kernel
theorem dX5_relay_10 : decode cX5_relay 10 = .ok (.tableswitch 158 0 10 #[58, 69, 83, 94, 103, 110, 117, 124, 131, 138, 152], 58) := by decide +kernel
theorem dX5_relay_68 : decode cX5_relay 68 = .ok (.aload_n 0, 1) := by decide +kernel
theorem dX5_relay_69 : decode cX5_relay 69 = .ok (.getfield 7, 3) := by decide +kernel
theorem dX5_relay_72 : decode cX5_relay 72 = .ok (.iconst 0, 1) := by decide +kernel
theorem dX5_relay_73 : decode cX5_relay 73 = .ok (.iaload, 1) := by decide +kernel
theorem dX5_relay_74 : decode cX5_relay 74 = .ok (.iload_n 1, 1) := by decide +kernel
theorem dX5_relay_75 : decode cX5_relay 75 = .ok (.ishr, 1) := by decide +kernel
theorem dX5_relay_76 : decode cX5_relay 76 = .ok (.iconst 1, 1) := by decide +kernel
theorem dX5_relay_77 : decode cX5_relay 77 = .ok (.iand, 1) := by decide +kernel
theorem dX5_relay_78 : decode cX5_relay 78 = .ok (.ireturn, 1) := by decide +kernel
theorem dX5_relay_79 : decode cX5_relay 79 = .ok (.aload_n 0, 1) := by decide +kernel
theorem dX5_relay_80 : decode cX5_relay 80 = .ok (.iload_n 1, 1) := by decide +kernel
theorem dX5_relay_81 : decode cX5_relay 81 = .ok (.invokevirtual 59, 3) := by decide +kernel
theorem dX5_relay_84 : decode cX5_relay 84 = .ok (.ifCond .eq 7, 3) := by decide +kernel
theorem dX5_relay_87 : decode cX5_relay 87 = .ok (.iconst 1, 1) := by decide +kernel
theorem dX5_relay_88 : decode cX5_relay 88 = .ok (.goto 4, 3) := by decide +kernel
theorem dX5_relay_91 : decode cX5_relay 91 = .ok (.iconst 0, 1) := by decide +kernel
theorem dX5_relay_92 : decode cX5_relay 92 = .ok (.ireturn, 1) := by decide +kernel
theorem dX5_relay_93 : decode cX5_relay 93 = .ok (.aload_n 0, 1) := by decide +kernel
theorem dX5_relay_94 : decode cX5_relay 94 = .ok (.getfield 7, 3) := by decide +kernel
theorem dX5_relay_97 : decode cX5_relay 97 = .ok (.iconst 1, 1) := by decide +kernel
theorem dX5_relay_98 : decode cX5_relay 98 = .ok (.iaload, 1) := by decide +kernel
theorem dX5_relay_99 : decode cX5_relay 99 = .ok (.iload_n 1, 1) := by decide +kernel
theorem dX5_relay_100 : decode cX5_relay 100 = .ok (.ishr, 1) := by decide +kernel
theorem dX5_relay_101 : decode cX5_relay 101 = .ok (.iconst 1, 1) := by decide +kernel
theorem dX5_relay_102 : decode cX5_relay 102 = .ok (.iand, 1) := by decide +kernel
theorem dX5_relay_103 : decode cX5_relay 103 = .ok (.ireturn, 1) := by decide +kernel
theorem dX5_relay_104 : decode cX5_relay 104 = .ok (.aload_n 0, 1) := by decide +kernel
theorem dX5_relay_105 : decode cX5_relay 105 = .ok (.invokevirtual 70, 3) := by decide +kernel
theorem dX5_relay_108 : decode cX5_relay 108 = .ok (.iload_n 1, 1) := by decide +kernel
theorem dX5_relay_109 : decode cX5_relay 109 = .ok (.ishr, 1) := by decide +kernel
theorem dX5_relay_110 : decode cX5_relay 110 = .ok (.iconst 1, 1) := by decide +kernel
theorem dX5_relay_111 : decode cX5_relay 111 = .ok (.iand, 1) := by decide +kernel
theorem dX5_relay_112 : decode cX5_relay 112 = .ok (.ireturn, 1) := by decide +kernel
theorem dX5_relay_113 : decode cX5_relay 113 = .ok (.aload_n 0, 1) := by decide +kernel
theorem dX5_relay_114 : decode cX5_relay 114 = .ok (.iload_n 1, 1) := by decide +kernel
theorem dX5_relay_115 : decode cX5_relay 115 = .ok (.iconst 2, 1) := by decide +kernel
theorem dX5_relay_116 : decode cX5_relay 116 = .ok (.invokevirtual 47, 3) := by decide +kernel
theorem dX5_relay_119 : decode cX5_relay 119 = .ok (.ireturn, 1) := by decide +kernel
theorem dX5_relay_120 : decode cX5_relay 120 = .ok (.aload_n 0, 1) := by decide +kernel
theorem dX5_relay_121 : decode cX5_relay 121 = .ok (.iload_n 1, 1) := by decide +kernel
theorem dX5_relay_122 : decode cX5_relay 122 = .ok (.iconst 3, 1) := by decide +kernel
theorem dX5_relay_123 : decode cX5_relay 123 = .ok (.invokevirtual 47, 3) := by decide +kernel
theorem dX5_relay_126 : decode cX5_relay 126 = .ok (.ireturn, 1) := by decide +kernel
theorem dX5_relay_127 : decode cX5_relay 127 = .ok (.aload_n 0, 1) := by decide +kernel
theorem dX5_relay_128 : decode cX5_relay 128 = .ok (.iload_n 1, 1) := by decide +kernel
theorem dX5_relay_129 : decode cX5_relay 129 = .ok (.iconst 0, 1) := by decide +kernel
theorem dX5_relay_130 : decode cX5_relay 130 = .ok (.invokevirtual 47, 3) := by decide +kernel
theorem dX5_relay_133 : decode cX5_relay 133 = .ok (.ireturn, 1) := by decide +kernel
theorem dX5_relay_134 : decode cX5_relay 134 = .ok (.aload_n 0, 1) := by decide +kernel
theorem dX5_relay_135 : decode cX5_relay 135 = .ok (.iload_n 1, 1) := by decide +kernel
theorem dX5_relay_136 : decode cX5_relay 136 = .ok (.iconst 1, 1) := by decide +kernel
theorem dX5_relay_137 : decode cX5_relay 137 = .ok (.invokevirtual 47, 3) := by decide +kernel
theorem dX5_relay_140 : decode cX5_relay 140 = .ok (.ireturn, 1) := by decide +kernel
theorem dX5_relay_141 : decode cX5_relay 141 = .ok (.aload_n 0, 1) := by decide +kernel
theorem dX5_relay_142 : decode cX5_relay 142 = .ok (.iload_n 1, 1) := by decide +kernel
theorem dX5_relay_143 : decode cX5_relay 143 = .ok (.iconst 4, 1) := by decide +kernel
theorem dX5_relay_144 : decode cX5_relay 144 = .ok (.invokevirtual 47, 3) := by decide +kernel
theorem dX5_relay_147 : decode cX5_relay 147 = .ok (.ireturn, 1) := by decide +kernel
theorem dX5_relay_148 : decode cX5_relay 148 = .ok (.aload_n 0, 1) := by decide +kernel
theorem dX5_relay_149 : decode cX5_relay 149 = .ok (.iload_n 1, 1) := by decide +kernel
theorem dX5_relay_150 : decode cX5_relay 150 = .ok (.invokevirtual 118, 3) := by decide +kernel
theorem dX5_relay_153 : decode cX5_relay 153 = .ok (.ifCond .eq 7, 3) := by decide +kernel
theorem dX5_relay_156 : decode cX5_relay 156 = .ok (.iconst 1, 1) := by decide +kernel
theorem dX5_relay_157 : decode cX5_relay 157 = .ok (.goto 4, 3) := by decide +kernel
theorem dX5_relay_160 : decode cX5_relay 160 = .ok (.iconst 0, 1) := by decide +kernel
theorem dX5_relay_161 : decode cX5_relay 161 = .ok (.ireturn, 1) := by decide +kernel
theorem dX5_relay_162 : decode cX5_relay 162 = .ok (.aload_n 0, 1) := by decide +kernel
theorem dX5_relay_163 : decode cX5_relay 163 = .ok (.iload_n 1, 1) := by decide +kernel
theorem dX5_relay_164 : decode cX5_relay 164 = .ok (.invokevirtual 121, 3) := by decide +kernel
theorem dX5_relay_167 : decode cX5_relay 167 = .ok (.ireturn, 1) := by decide +kernel
theorem dX5_relay_168 : decode cX5_relay 168 = .ok (.bipush (-2), 2) := by decide +kernel
theorem dX5_relay_170 : decode cX5_relay 170 = .ok (.ireturn, 1) := by decide +kernel
set_option maxRecDepth 20000 in
theorem ggX5_branch_X5_isRelay : GoodIn wsX5_branch wsX5_isRelay := goodIn_r _ [4, 5, 6, 3, 7] (by decide +kernel) (by decide +kernel)
set_option maxRecDepth 20000 in
theorem gX5_branch_X5_isRelay : GoodIn wsX5_branch (va_wsS RX5 80 yX5_isRelay wsX5_isRelay) := goodIn_app (goodIn_of _ (by decide +kernel)) ggX5_branch_X5_isRelay
set_option maxRecDepth 20000 in
theorem ggX5_branch_X5_part : GoodIn wsX5_branch wsX5_part := goodIn_r _ [11, 12, 21, 22, 23, 24, 25, 26, 27, 28, 29, 30, 31, 32] (by decide +kernel) (by decide +kernel)
set_option maxRecDepth 20000 in
theorem gX5_branch_X5_part : GoodIn wsX5_branch (wsV RX5 47 RX5 yX5_part wsX5_part) := goodIn_app (goodIn_of _ (by decide +kernel)) ggX5_branch_X5_part
set_option maxRecDepth 20000 in
theorem ggX5_branch_X5_within : GoodIn wsX5_branch wsX5_within := goodIn_r _ [7] (by decide +kernel) (by decide +kernel)
set_option maxRecDepth 20000 in
theorem gX5_branch_X5_within : GoodIn wsX5_branch (va_wsS RX5 43 yX5_within wsX5_within) := goodIn_app (goodIn_of _ (by decide +kernel)) ggX5_branch_X5_within
set_option maxRecDepth 20000 in
theorem ggX5_branch_X5_isClosed : GoodIn wsX5_branch wsX5_isClosed := goodIn_r _ [16, 12, 17, 18, 19, 3, 20, 8, 9, 10, 11, 21, 22, 23, 24, 25, 26, 27, 28, 29, 30, 31, 32] (by decide +kernel) (by decide +kernel)
set_option maxRecDepth 20000 in
theorem gX5_branch_X5_isClosed : GoodIn wsX5_branch (wsV RX5 55 RX5 yX5_isClosed wsX5_isClosed) := goodIn_app (goodIn_of _ (by decide +kernel)) ggX5_branch_X5_isClosed
set_option maxRecDepth 20000 in
theorem ggX5_branch_X5_ofBranch : GoodIn wsX5_branch wsX5_ofBranch := goodIn_r _ [20, 8, 9, 10, 3, 11, 12, 21, 22, 23, 24, 25, 26, 27, 28, 29, 30, 31, 32] (by decide +kernel) (by decide +kernel)
set_option maxRecDepth 20000 in
theorem gX5_branch_X5_ofBranch : GoodIn wsX5_branch (wsV RX5 51 RX5 yX5_ofBranch wsX5_ofBranch) := goodIn_app (goodIn_of _ (by decide +kernel)) ggX5_branch_X5_ofBranch
theorem dX5_branch_0 : decode cX5_branch 0 = .ok (.iload_n 1, 1) := by decide +kernel
theorem dX5_branch_1 : decode cX5_branch 1 = .ok (.invokestatic 80, 3) := by decide +kernel
theorem dX5_branch_4 : decode cX5_branch 4 = .ok (.ifCond .eq 19, 3) := by decide +kernel
theorem dX5_branch_7 : decode cX5_branch 7 = .ok (.iload_n 2, 1) := by decide +kernel
theorem dX5_branch_8 : decode cX5_branch 8 = .ok (.iconst 0, 1) := by decide +kernel
theorem dX5_branch_9 : decode cX5_branch 9 = .ok (.aload_n 0, 1) := by decide +kernel
theorem dX5_branch_10 : decode cX5_branch 10 = .ok (.iload_n 1, 1) := by decide +kernel
theorem dX5_branch_11 : decode cX5_branch 11 = .ok (.iconst 4, 1) := by decide +kernel
theorem dX5_branch_12 : decode cX5_branch 12 = .ok (.invokevirtual 47, 3) := by decide +kernel
theorem dX5_branch_15 : decode cX5_branch 15 = .ok (.iconst 1, 1) := by decide +kernel
theorem dX5_branch_16 : decode cX5_branch 16 = .ok (.isub, 1) := by decide +kernel
theorem dX5_branch_17 : decode cX5_branch 17 = .ok (.invokestatic 43, 3) := by decide +kernel
theorem dX5_branch_20 : decode cX5_branch 20 = .ok (.ifCond .ne 5, 3) := by decide +kernel
theorem dX5_branch_23 : decode cX5_branch 23 = .ok (.iconst (-1), 1) := by decide +kernel
theorem dX5_branch_24 : decode cX5_branch 24 = .ok (.ireturn, 1) := by decide +kernel
theorem dX5_branch_25 : decode cX5_branch 25 = .ok (.sipush 1023, 3) := by decide +kernel
theorem dX5_branch_28 : decode cX5_branch 28 = .ok (.istore 4, 2) := by decide +kernel
theorem dX5_branch_30 : decode cX5_branch 30 = .ok (.iload_n 3, 1) := by decide +kernel
theorem dX5_branch_31 : decode cX5_branch 31 = .ok (.tableswitch 86 0 5 #[37, 52, 60, 60, 73, 73], 37) := by decide +kernel
theorem dX5_branch_68 : decode cX5_branch 68 = .ok (.aload_n 0, 1) := by decide +kernel
theorem dX5_branch_69 : decode cX5_branch 69 = .ok (.iload_n 1, 1) := by decide +kernel
theorem dX5_branch_70 : decode cX5_branch 70 = .ok (.iload_n 2, 1) := by decide +kernel
theorem dX5_branch_71 : decode cX5_branch 71 = .ok (.invokevirtual 55, 3) := by decide +kernel
theorem dX5_branch_74 : decode cX5_branch 74 = .ok (.ifCond .eq 7, 3) := by decide +kernel
theorem dX5_branch_77 : decode cX5_branch 77 = .ok (.iconst 1, 1) := by decide +kernel
theorem dX5_branch_78 : decode cX5_branch 78 = .ok (.goto 4, 3) := by decide +kernel
theorem dX5_branch_81 : decode cX5_branch 81 = .ok (.iconst 0, 1) := by decide +kernel
theorem dX5_branch_82 : decode cX5_branch 82 = .ok (.ireturn, 1) := by decide +kernel
theorem dX5_branch_83 : decode cX5_branch 83 = .ok (.aload_n 0, 1) := by decide +kernel
theorem dX5_branch_84 : decode cX5_branch 84 = .ok (.iload_n 1, 1) := by decide +kernel
theorem dX5_branch_85 : decode cX5_branch 85 = .ok (.iload_n 2, 1) := by decide +kernel
theorem dX5_branch_86 : decode cX5_branch 86 = .ok (.iconst 2, 1) := by decide +kernel
theorem dX5_branch_87 : decode cX5_branch 87 = .ok (.invokevirtual 51, 3) := by decide +kernel
theorem dX5_branch_90 : decode cX5_branch 90 = .ok (.ireturn, 1) := by decide +kernel
theorem dX5_branch_91 : decode cX5_branch 91 = .ok (.aload_n 0, 1) := by decide +kernel
theorem dX5_branch_92 : decode cX5_branch 92 = .ok (.iload_n 1, 1) := by decide +kernel
theorem dX5_branch_93 : decode cX5_branch 93 = .ok (.iload_n 2, 1) := by decide +kernel
theorem dX5_branch_94 : decode cX5_branch 94 = .ok (.iload_n 3, 1) := by decide +kernel
theorem dX5_branch_95 : decode cX5_branch 95 = .ok (.iconst 2, 1) := by decide +kernel
theorem dX5_branch_96 : decode cX5_branch 96 = .ok (.isub, 1) := by decide +kernel
theorem dX5_branch_97 : decode cX5_branch 97 = .ok (.invokevirtual 51, 3) := by decide +kernel
theorem dX5_branch_100 : decode cX5_branch 100 = .ok (.iload 4, 2) := by decide +kernel
theorem dX5_branch_102 : decode cX5_branch 102 = .ok (.iand, 1) := by decide +kernel
theorem dX5_branch_103 : decode cX5_branch 103 = .ok (.ireturn, 1) := by decide +kernel
theorem dX5_branch_104 : decode cX5_branch 104 = .ok (.aload_n 0, 1) := by decide +kernel
theorem dX5_branch_105 : decode cX5_branch 105 = .ok (.iload_n 1, 1) := by decide +kernel
theorem dX5_branch_106 : decode cX5_branch 106 = .ok (.iload_n 2, 1) := by decide +kernel
theorem dX5_branch_107 : decode cX5_branch 107 = .ok (.iload_n 3, 1) := by decide +kernel
theorem dX5_branch_108 : decode cX5_branch 108 = .ok (.iconst 4, 1) := by decide +kernel
theorem dX5_branch_109 : decode cX5_branch 109 = .ok (.isub, 1) := by decide +kernel
theorem dX5_branch_110 : decode cX5_branch 110 = .ok (.invokevirtual 51, 3) := by decide +kernel
theorem dX5_branch_113 : decode cX5_branch 113 = .ok (.bipush 10, 2) := by decide +kernel
theorem dX5_branch_115 : decode cX5_branch 115 = .ok (.ishr, 1) := by decide +kernel
theorem dX5_branch_116 : decode cX5_branch 116 = .ok (.ireturn, 1) := by decide +kernel
theorem dX5_branch_117 : decode cX5_branch 117 = .ok (.bipush (-2), 2) := by decide +kernel
theorem dX5_branch_119 : decode cX5_branch 119 = .ok (.ireturn, 1) := by decide +kernel
set_option maxRecDepth 20000 in
theorem ggX5_neverClosed_X5_part : GoodIn wsX5_neverClosed wsX5_part := goodIn_r _ [5, 6, 11, 12, 13, 14, 15, 16, 17, 18, 19, 20, 21, 22] (by decide +kernel) (by decide +kernel)
set_option maxRecDepth 20000 in
theorem gX5_neverClosed_X5_part : GoodIn wsX5_neverClosed (wsV RX5 47 RX5 yX5_part wsX5_part) := goodIn_app (goodIn_of _ (by decide +kernel)) ggX5_neverClosed_X5_part
set_option maxRecDepth 20000 in
theorem ggX5_neverClosed_X5_ofBranch : GoodIn wsX5_neverClosed wsX5_ofBranch := goodIn_r _ [10, 1, 2, 3, 4, 5, 6, 11, 12, 13, 14, 15, 16, 17, 18, 19, 20, 21, 22] (by decide +kernel) (by decide +kernel)
set_option maxRecDepth 20000 in
theorem gX5_neverClosed_X5_ofBranch : GoodIn wsX5_neverClosed (wsV RX5 51 RX5 yX5_ofBranch wsX5_ofBranch) := goodIn_app (goodIn_of _ (by decide +kernel)) ggX5_neverClosed_X5_ofBranch
theorem dX5_neverClosed_0 : decode cX5_neverClosed 0 = .ok (.iconst 0, 1) := by decide +kernel
theorem dX5_neverClosed_1 : decode cX5_neverClosed 1 = .ok (.istore_n 1, 1) := by decide +kernel
theorem dX5_neverClosed_2 : decode cX5_neverClosed 2 = .ok (.iconst 0, 1) := by decide +kernel
theorem dX5_neverClosed_3 : decode cX5_neverClosed 3 = .ok (.istore_n 2, 1) := by decide +kernel
theorem dX5_neverClosed_4 : decode cX5_neverClosed 4 = .ok (.iload_n 2, 1) := by decide +kernel
theorem dX5_neverClosed_5 : decode cX5_neverClosed 5 = .ok (.bipush 10, 2) := by decide +kernel
theorem dX5_neverClosed_7 : decode cX5_neverClosed 7 = .ok (.if_icmp .ge 53, 3) := by decide +kernel
theorem dX5_neverClosed_10 : decode cX5_neverClosed 10 = .ok (.iconst 0, 1) := by decide +kernel
theorem dX5_neverClosed_11 : decode cX5_neverClosed 11 = .ok (.istore_n 3, 1) := by decide +kernel
theorem dX5_neverClosed_12 : decode cX5_neverClosed 12 = .ok (.iload_n 3, 1) := by decide +kernel
theorem dX5_neverClosed_13 : decode cX5_neverClosed 13 = .ok (.aload_n 0, 1) := by decide +kernel
theorem dX5_neverClosed_14 : decode cX5_neverClosed 14 = .ok (.iload_n 2, 1) := by decide +kernel
theorem dX5_neverClosed_15 : decode cX5_neverClosed 15 = .ok (.iconst 4, 1) := by decide +kernel
theorem dX5_neverClosed_16 : decode cX5_neverClosed 16 = .ok (.invokevirtual 47, 3) := by decide +kernel
theorem dX5_neverClosed_19 : decode cX5_neverClosed 19 = .ok (.if_icmp .ge 35, 3) := by decide +kernel
theorem dX5_neverClosed_22 : decode cX5_neverClosed 22 = .ok (.iload_n 1, 1) := by decide +kernel
theorem dX5_neverClosed_23 : decode cX5_neverClosed 23 = .ok (.aload_n 0, 1) := by decide +kernel
theorem dX5_neverClosed_24 : decode cX5_neverClosed 24 = .ok (.iload_n 2, 1) := by decide +kernel
theorem dX5_neverClosed_25 : decode cX5_neverClosed 25 = .ok (.iload_n 3, 1) := by decide +kernel
theorem dX5_neverClosed_26 : decode cX5_neverClosed 26 = .ok (.iconst 0, 1) := by decide +kernel
theorem dX5_neverClosed_27 : decode cX5_neverClosed 27 = .ok (.invokevirtual 51, 3) := by decide +kernel
theorem dX5_neverClosed_30 : decode cX5_neverClosed 30 = .ok (.aload_n 0, 1) := by decide +kernel
theorem dX5_neverClosed_31 : decode cX5_neverClosed 31 = .ok (.iload_n 2, 1) := by decide +kernel
theorem dX5_neverClosed_32 : decode cX5_neverClosed 32 = .ok (.iload_n 3, 1) := by decide +kernel
theorem dX5_neverClosed_33 : decode cX5_neverClosed 33 = .ok (.iconst 1, 1) := by decide +kernel
theorem dX5_neverClosed_34 : decode cX5_neverClosed 34 = .ok (.invokevirtual 51, 3) := by decide +kernel
theorem dX5_neverClosed_37 : decode cX5_neverClosed 37 = .ok (.iand, 1) := by decide +kernel
theorem dX5_neverClosed_38 : decode cX5_neverClosed 38 = .ok (.ifCond .eq 7, 3) := by decide +kernel
theorem dX5_neverClosed_41 : decode cX5_neverClosed 41 = .ok (.iconst 1, 1) := by decide +kernel
theorem dX5_neverClosed_42 : decode cX5_neverClosed 42 = .ok (.goto 4, 3) := by decide +kernel
theorem dX5_neverClosed_45 : decode cX5_neverClosed 45 = .ok (.iconst 0, 1) := by decide +kernel
theorem dX5_neverClosed_46 : decode cX5_neverClosed 46 = .ok (.iadd, 1) := by decide +kernel
theorem dX5_neverClosed_47 : decode cX5_neverClosed 47 = .ok (.istore_n 1, 1) := by decide +kernel
theorem dX5_neverClosed_48 : decode cX5_neverClosed 48 = .ok (.iinc 3 1, 3) := by decide +kernel
theorem dX5_neverClosed_51 : decode cX5_neverClosed 51 = .ok (.goto (-39), 3) := by decide +kernel
theorem dX5_neverClosed_54 : decode cX5_neverClosed 54 = .ok (.iinc 2 1, 3) := by decide +kernel
theorem dX5_neverClosed_57 : decode cX5_neverClosed 57 = .ok (.goto (-53), 3) := by decide +kernel
theorem dX5_neverClosed_60 : decode cX5_neverClosed 60 = .ok (.iload_n 1, 1) := by decide +kernel
theorem dX5_neverClosed_61 : decode cX5_neverClosed 61 = .ok (.ireturn, 1) := by decide +kernel
set_option maxRecDepth 20000 in
theorem ggX5_count_X5_fed : GoodIn wsX5_count wsX5_fed := goodIn_r _ [8, 9, 10, 11, 7, 12, 13, 14, 15, 16, 1, 17, 18, 19, 20, 21, 22, 23, 24, 37, 38, 39, 40, 41, 42, 43, 44, 45, 46, 47, 48] (by decide +kernel) (by decide +kernel)
set_option maxRecDepth 20000 in
theorem gX5_count_X5_fed : GoodIn wsX5_count (wsV RX5 63 RX5 yX5_fed wsX5_fed) := goodIn_app (goodIn_of _ (by decide +kernel)) ggX5_count_X5_fed
set_option maxRecDepth 20000 in
theorem ggX5_count_X5_wanting : GoodIn wsX5_count wsX5_wanting := goodIn_r _ [28, 1, 4, 5, 6, 7, 8, 9, 10, 11, 12, 13, 14, 15, 16, 17, 18, 19, 20, 21, 22, 23, 24, 37, 38, 39, 40, 41, 42, 43, 44, 45, 46, 47, 48] (by decide +kernel) (by decide +kernel)
set_option maxRecDepth 20000 in
theorem gX5_count_X5_wanting : GoodIn wsX5_count (wsV RX5 70 RX5 yX5_wanting wsX5_wanting) := goodIn_app (goodIn_of _ (by decide +kernel)) ggX5_count_X5_wanting
set_option maxRecDepth 20000 in
theorem ggX5_count_X5_relaysWithBranches : GoodIn wsX5_count wsX5_relaysWithBranches := goodIn_r _ [32, 13, 14, 15, 7, 16, 1, 37, 38, 39, 40, 41, 42, 43, 44, 45, 46, 47, 48] (by decide +kernel) (by decide +kernel)
set_option maxRecDepth 20000 in
theorem gX5_count_X5_relaysWithBranches : GoodIn wsX5_count (wsV RX5 108 RX5 yX5_relaysWithBranches wsX5_relaysWithBranches) := goodIn_app (goodIn_of _ (by decide +kernel)) ggX5_count_X5_relaysWithBranches
set_option maxRecDepth 20000 in
theorem ggX5_count_X5_neverClosed : GoodIn wsX5_count wsX5_neverClosed := goodIn_r _ [36, 13, 14, 15, 7, 16, 1, 21, 22, 23, 24, 37, 38, 39, 40, 41, 42, 43, 44, 45, 46, 47, 48] (by decide +kernel) (by decide +kernel)
set_option maxRecDepth 20000 in
theorem gX5_count_X5_neverClosed : GoodIn wsX5_count (wsV RX5 124 RX5 yX5_neverClosed wsX5_neverClosed) := goodIn_app (goodIn_of _ (by decide +kernel)) ggX5_count_X5_neverClosed
theorem dX5_count_0 : decode cX5_count 0 = .ok (.iload_n 1, 1) := by decide +kernel
theorem dX5_count_1 : decode cX5_count 1 = .ok (.tableswitch 135 0 11 #[63, 70, 75, 82, 87, 94, 101, 108, 115, 120, 125, 130], 63) := by decide +kernel
theorem dX5_count_64 : decode cX5_count 64 = .ok (.aload_n 0, 1) := by decide +kernel
theorem dX5_count_65 : decode cX5_count 65 = .ok (.getfield 7, 3) := by decide +kernel
theorem dX5_count_68 : decode cX5_count 68 = .ok (.iconst 0, 1) := by decide +kernel
theorem dX5_count_69 : decode cX5_count 69 = .ok (.iaload, 1) := by decide +kernel
theorem dX5_count_70 : decode cX5_count 70 = .ok (.ireturn, 1) := by decide +kernel
theorem dX5_count_71 : decode cX5_count 71 = .ok (.aload_n 0, 1) := by decide +kernel
theorem dX5_count_72 : decode cX5_count 72 = .ok (.invokevirtual 63, 3) := by decide +kernel
theorem dX5_count_75 : decode cX5_count 75 = .ok (.ireturn, 1) := by decide +kernel
theorem dX5_count_76 : decode cX5_count 76 = .ok (.aload_n 0, 1) := by decide +kernel
theorem dX5_count_77 : decode cX5_count 77 = .ok (.getfield 7, 3) := by decide +kernel
theorem dX5_count_80 : decode cX5_count 80 = .ok (.iconst 1, 1) := by decide +kernel
theorem dX5_count_81 : decode cX5_count 81 = .ok (.iaload, 1) := by decide +kernel
theorem dX5_count_82 : decode cX5_count 82 = .ok (.ireturn, 1) := by decide +kernel
theorem dX5_count_83 : decode cX5_count 83 = .ok (.aload_n 0, 1) := by decide +kernel
theorem dX5_count_84 : decode cX5_count 84 = .ok (.invokevirtual 70, 3) := by decide +kernel
theorem dX5_count_87 : decode cX5_count 87 = .ok (.ireturn, 1) := by decide +kernel
theorem dX5_count_88 : decode cX5_count 88 = .ok (.aload_n 0, 1) := by decide +kernel
theorem dX5_count_89 : decode cX5_count 89 = .ok (.getfield 7, 3) := by decide +kernel
theorem dX5_count_92 : decode cX5_count 92 = .ok (.iconst 2, 1) := by decide +kernel
theorem dX5_count_93 : decode cX5_count 93 = .ok (.iaload, 1) := by decide +kernel
theorem dX5_count_94 : decode cX5_count 94 = .ok (.ireturn, 1) := by decide +kernel
theorem dX5_count_95 : decode cX5_count 95 = .ok (.aload_n 0, 1) := by decide +kernel
theorem dX5_count_96 : decode cX5_count 96 = .ok (.getfield 7, 3) := by decide +kernel
theorem dX5_count_99 : decode cX5_count 99 = .ok (.iconst 3, 1) := by decide +kernel
theorem dX5_count_100 : decode cX5_count 100 = .ok (.iaload, 1) := by decide +kernel
theorem dX5_count_101 : decode cX5_count 101 = .ok (.ireturn, 1) := by decide +kernel
theorem dX5_count_102 : decode cX5_count 102 = .ok (.aload_n 0, 1) := by decide +kernel
theorem dX5_count_103 : decode cX5_count 103 = .ok (.getfield 7, 3) := by decide +kernel
theorem dX5_count_106 : decode cX5_count 106 = .ok (.iconst 4, 1) := by decide +kernel
theorem dX5_count_107 : decode cX5_count 107 = .ok (.iaload, 1) := by decide +kernel
theorem dX5_count_108 : decode cX5_count 108 = .ok (.ireturn, 1) := by decide +kernel
theorem dX5_count_109 : decode cX5_count 109 = .ok (.aload_n 0, 1) := by decide +kernel
theorem dX5_count_110 : decode cX5_count 110 = .ok (.getfield 7, 3) := by decide +kernel
theorem dX5_count_113 : decode cX5_count 113 = .ok (.iconst 5, 1) := by decide +kernel
theorem dX5_count_114 : decode cX5_count 114 = .ok (.iaload, 1) := by decide +kernel
theorem dX5_count_115 : decode cX5_count 115 = .ok (.ireturn, 1) := by decide +kernel
theorem dX5_count_116 : decode cX5_count 116 = .ok (.aload_n 0, 1) := by decide +kernel
theorem dX5_count_117 : decode cX5_count 117 = .ok (.invokevirtual 108, 3) := by decide +kernel
theorem dX5_count_120 : decode cX5_count 120 = .ok (.ireturn, 1) := by decide +kernel
theorem dX5_count_121 : decode cX5_count 121 = .ok (.aload_n 0, 1) := by decide +kernel
theorem dX5_count_122 : decode cX5_count 122 = .ok (.invokevirtual 124, 3) := by decide +kernel
theorem dX5_count_125 : decode cX5_count 125 = .ok (.ireturn, 1) := by decide +kernel
theorem dX5_count_126 : decode cX5_count 126 = .ok (.aload_n 0, 1) := by decide +kernel
theorem dX5_count_127 : decode cX5_count 127 = .ok (.getfield 92, 3) := by decide +kernel
theorem dX5_count_130 : decode cX5_count 130 = .ok (.ireturn, 1) := by decide +kernel
theorem dX5_count_131 : decode cX5_count 131 = .ok (.aload_n 0, 1) := by decide +kernel
theorem dX5_count_132 : decode cX5_count 132 = .ok (.getfield 35, 3) := by decide +kernel
theorem dX5_count_135 : decode cX5_count 135 = .ok (.ireturn, 1) := by decide +kernel
theorem dX5_count_136 : decode cX5_count 136 = .ok (.bipush (-2), 2) := by decide +kernel
theorem dX5_count_138 : decode cX5_count 138 = .ok (.ireturn, 1) := by decide +kernel
set_option maxRecDepth 20000 in
theorem ggX5_isSet_X5_within : GoodIn wsX5_isSet wsX5_within := goodIn_r _ [4] (by decide +kernel) (by decide +kernel)
set_option maxRecDepth 20000 in
theorem gX5_isSet_X5_within : GoodIn wsX5_isSet (va_wsS RX5 43 yX5_within wsX5_within) := goodIn_app (goodIn_of _ (by decide +kernel)) ggX5_isSet_X5_within
theorem dX5_isSet_0 : decode cX5_isSet 0 = .ok (.iload_n 0, 1) := by decide +kernel
theorem dX5_isSet_1 : decode cX5_isSet 1 = .ok (.iconst 0, 1) := by decide +kernel
theorem dX5_isSet_2 : decode cX5_isSet 2 = .ok (.bipush 63, 2) := by decide +kernel
theorem dX5_isSet_4 : decode cX5_isSet 4 = .ok (.invokestatic 43, 3) := by decide +kernel
theorem dX5_isSet_7 : decode cX5_isSet 7 = .ok (.ireturn, 1) := by decide +kernel
set_option maxRecDepth 20000 in
theorem ggX5_ifPressed_X5_isSet : GoodIn wsX5_ifPressed wsX5_isSet := goodIn_r _ [6, 7, 8, 5, 9] (by decide +kernel) (by decide +kernel)
set_option maxRecDepth 20000 in
theorem gX5_ifPressed_X5_isSet : GoodIn wsX5_ifPressed (va_wsS RX5 127 yX5_isSet wsX5_isSet) := goodIn_app (goodIn_of _ (by decide +kernel)) ggX5_ifPressed_X5_isSet
set_option maxRecDepth 20000 in
theorem ggX5_ifPressed_X5_within : GoodIn wsX5_ifPressed wsX5_within := goodIn_r _ [9] (by decide +kernel) (by decide +kernel)
set_option maxRecDepth 20000 in
theorem gX5_ifPressed_X5_within : GoodIn wsX5_ifPressed (va_wsS RX5 43 yX5_within wsX5_within) := goodIn_app (goodIn_of _ (by decide +kernel)) ggX5_ifPressed_X5_within
set_option maxRecDepth 20000 in
theorem ggX5_ifPressed_X5_moves : GoodIn wsX5_ifPressed wsX5_moves := goodIn_r _ [12] (by decide +kernel) (by decide +kernel)
set_option maxRecDepth 20000 in
theorem gX5_ifPressed_X5_moves : GoodIn wsX5_ifPressed (va_wsS RX5 39 yX5_moves wsX5_moves) := goodIn_app (goodIn_of _ (by decide +kernel)) ggX5_ifPressed_X5_moves
set_option maxRecDepth 20000 in
theorem ggX5_ifPressed_X5_passes : GoodIn wsX5_ifPressed wsX5_passes := goodIn_r _ [16, 1, 17, 18, 19, 5, 20, 21, 22, 23, 24, 25, 26, 27, 28, 29, 30, 31, 32, 33, 34, 35, 36, 37, 38, 39, 40, 41, 42, 43, 44, 45, 46, 47, 48, 49, 50, 51, 52, 53, 54, 55, 56, 57, 58, 59, 60, 61, 62, 63, 64, 65, 66, 67] (by decide +kernel) (by decide +kernel)
set_option maxRecDepth 20000 in
theorem gX5_ifPressed_X5_passes : GoodIn wsX5_ifPressed (wsV RX5 111 RX5 yX5_passes wsX5_passes) := goodIn_app (goodIn_of _ (by decide +kernel)) ggX5_ifPressed_X5_passes
theorem dX5_ifPressed_0 : decode cX5_ifPressed 0 = .ok (.iload_n 1, 1) := by decide +kernel
theorem dX5_ifPressed_1 : decode cX5_ifPressed 1 = .ok (.invokestatic 127, 3) := by decide +kernel
theorem dX5_ifPressed_4 : decode cX5_ifPressed 4 = .ok (.ifCond .eq 14, 3) := by decide +kernel
theorem dX5_ifPressed_7 : decode cX5_ifPressed 7 = .ok (.iload_n 2, 1) := by decide +kernel
theorem dX5_ifPressed_8 : decode cX5_ifPressed 8 = .ok (.iconst 0, 1) := by decide +kernel
theorem dX5_ifPressed_9 : decode cX5_ifPressed 9 = .ok (.sipush 200, 3) := by decide +kernel
theorem dX5_ifPressed_12 : decode cX5_ifPressed 12 = .ok (.invokestatic 43, 3) := by decide +kernel
theorem dX5_ifPressed_15 : decode cX5_ifPressed 15 = .ok (.ifCond .ne 6, 3) := by decide +kernel
theorem dX5_ifPressed_18 : decode cX5_ifPressed 18 = .ok (.bipush (-2), 2) := by decide +kernel
theorem dX5_ifPressed_20 : decode cX5_ifPressed 20 = .ok (.ireturn, 1) := by decide +kernel
theorem dX5_ifPressed_21 : decode cX5_ifPressed 21 = .ok (.aload_n 0, 1) := by decide +kernel
theorem dX5_ifPressed_22 : decode cX5_ifPressed 22 = .ok (.getfield 7, 3) := by decide +kernel
theorem dX5_ifPressed_25 : decode cX5_ifPressed 25 = .ok (.iconst 0, 1) := by decide +kernel
theorem dX5_ifPressed_26 : decode cX5_ifPressed 26 = .ok (.aload_n 0, 1) := by decide +kernel
theorem dX5_ifPressed_27 : decode cX5_ifPressed 27 = .ok (.getfield 13, 3) := by decide +kernel
theorem dX5_ifPressed_30 : decode cX5_ifPressed 30 = .ok (.iconst 0, 1) := by decide +kernel
theorem dX5_ifPressed_31 : decode cX5_ifPressed 31 = .ok (.invokestatic 39, 3) := by decide +kernel
theorem dX5_ifPressed_34 : decode cX5_ifPressed 34 = .ok (.aload_n 0, 1) := by decide +kernel
theorem dX5_ifPressed_35 : decode cX5_ifPressed 35 = .ok (.getfield 7, 3) := by decide +kernel
theorem dX5_ifPressed_38 : decode cX5_ifPressed 38 = .ok (.iconst 2, 1) := by decide +kernel
theorem dX5_ifPressed_39 : decode cX5_ifPressed 39 = .ok (.iload_n 1, 1) := by decide +kernel
theorem dX5_ifPressed_40 : decode cX5_ifPressed 40 = .ok (.iastore, 1) := by decide +kernel
theorem dX5_ifPressed_41 : decode cX5_ifPressed 41 = .ok (.aload_n 0, 1) := by decide +kernel
theorem dX5_ifPressed_42 : decode cX5_ifPressed 42 = .ok (.iload_n 2, 1) := by decide +kernel
theorem dX5_ifPressed_43 : decode cX5_ifPressed 43 = .ok (.invokevirtual 111, 3) := by decide +kernel
theorem dX5_ifPressed_46 : decode cX5_ifPressed 46 = .ok (.pop, 1) := by decide +kernel
theorem dX5_ifPressed_47 : decode cX5_ifPressed 47 = .ok (.aload_n 0, 1) := by decide +kernel
theorem dX5_ifPressed_48 : decode cX5_ifPressed 48 = .ok (.getfield 7, 3) := by decide +kernel
theorem dX5_ifPressed_51 : decode cX5_ifPressed 51 = .ok (.iconst 0, 1) := by decide +kernel
theorem dX5_ifPressed_52 : decode cX5_ifPressed 52 = .ok (.iaload, 1) := by decide +kernel
theorem dX5_ifPressed_53 : decode cX5_ifPressed 53 = .ok (.istore_n 3, 1) := by decide +kernel
theorem dX5_ifPressed_54 : decode cX5_ifPressed 54 = .ok (.aload_n 0, 1) := by decide +kernel
theorem dX5_ifPressed_55 : decode cX5_ifPressed 55 = .ok (.getfield 13, 3) := by decide +kernel
theorem dX5_ifPressed_58 : decode cX5_ifPressed 58 = .ok (.iconst 0, 1) := by decide +kernel
theorem dX5_ifPressed_59 : decode cX5_ifPressed 59 = .ok (.aload_n 0, 1) := by decide +kernel
theorem dX5_ifPressed_60 : decode cX5_ifPressed 60 = .ok (.getfield 7, 3) := by decide +kernel
theorem dX5_ifPressed_63 : decode cX5_ifPressed 63 = .ok (.iconst 0, 1) := by decide +kernel
theorem dX5_ifPressed_64 : decode cX5_ifPressed 64 = .ok (.invokestatic 39, 3) := by decide +kernel
theorem dX5_ifPressed_67 : decode cX5_ifPressed 67 = .ok (.iload_n 3, 1) := by decide +kernel
theorem dX5_ifPressed_68 : decode cX5_ifPressed 68 = .ok (.ireturn, 1) := by decide +kernel
set_option maxRecDepth 20000 in
theorem ggX5_restWith_X5_settles : GoodIn wsX5_restWith wsX5_settles := goodIn_r _ [7, 8, 9, 10, 6, 11, 1, 12, 13, 14, 15, 16, 17, 18, 19, 20, 21, 22, 23, 24, 25, 26, 27, 28, 29, 30, 31, 32, 33, 34, 35, 36, 37, 38, 39, 40, 41, 42, 43, 44, 45, 46, 50, 51, 52, 53, 54, 55, 56, 57, 58, 59, 60, 61] (by decide +kernel) (by decide +kernel)
set_option maxRecDepth 20000 in
theorem gX5_restWith_X5_settles : GoodIn wsX5_restWith (wsV RX5 115 RX5 yX5_settles wsX5_settles) := goodIn_app (goodIn_of _ (by decide +kernel)) ggX5_restWith_X5_settles
set_option maxRecDepth 20000 in
theorem ggX5_restWith_X5_wanting : GoodIn wsX5_restWith wsX5_wanting := goodIn_r _ [11, 1, 12, 13, 14, 6, 15, 16, 17, 18, 19, 20, 21, 22, 23, 24, 25, 26, 27, 28, 29, 30, 31, 50, 51, 52, 53, 54, 55, 56, 57, 58, 59, 60, 61] (by decide +kernel) (by decide +kernel)
set_option maxRecDepth 20000 in
theorem gX5_restWith_X5_wanting : GoodIn wsX5_restWith (wsV RX5 70 RX5 yX5_wanting wsX5_wanting) := goodIn_app (goodIn_of _ (by decide +kernel)) ggX5_restWith_X5_wanting
set_option maxRecDepth 20000 in
theorem ggX5_restWith_X5_moves : GoodIn wsX5_restWith wsX5_moves := goodIn_r _ [49] (by decide +kernel) (by decide +kernel)
set_option maxRecDepth 20000 in
theorem gX5_restWith_X5_moves : GoodIn wsX5_restWith (va_wsS RX5 39 yX5_moves wsX5_moves) := goodIn_app (goodIn_of _ (by decide +kernel)) ggX5_restWith_X5_moves
theorem dX5_restWith_0 : decode cX5_restWith 0 = .ok (.aload_n 0, 1) := by decide +kernel
theorem dX5_restWith_1 : decode cX5_restWith 1 = .ok (.getfield 7, 3) := by decide +kernel
theorem dX5_restWith_4 : decode cX5_restWith 4 = .ok (.iconst 4, 1) := by decide +kernel
theorem dX5_restWith_5 : decode cX5_restWith 5 = .ok (.iaload, 1) := by decide +kernel
theorem dX5_restWith_6 : decode cX5_restWith 6 = .ok (.istore_n 3, 1) := by decide +kernel
theorem dX5_restWith_7 : decode cX5_restWith 7 = .ok (.aload_n 0, 1) := by decide +kernel
theorem dX5_restWith_8 : decode cX5_restWith 8 = .ok (.getfield 7, 3) := by decide +kernel
theorem dX5_restWith_11 : decode cX5_restWith 11 = .ok (.iconst 2, 1) := by decide +kernel
theorem dX5_restWith_12 : decode cX5_restWith 12 = .ok (.iload_n 1, 1) := by decide +kernel
theorem dX5_restWith_13 : decode cX5_restWith 13 = .ok (.iastore, 1) := by decide +kernel
theorem dX5_restWith_14 : decode cX5_restWith 14 = .ok (.aload_n 0, 1) := by decide +kernel
theorem dX5_restWith_15 : decode cX5_restWith 15 = .ok (.invokevirtual 115, 3) := by decide +kernel
theorem dX5_restWith_18 : decode cX5_restWith 18 = .ok (.istore 4, 2) := by decide +kernel
theorem dX5_restWith_20 : decode cX5_restWith 20 = .ok (.aload_n 0, 1) := by decide +kernel
