theorem dX3_neverClosedBranches_58 : decode cX3_neverClosedBranches 58 = .ok (.goto (-30), 3) := by decide +kernel
theorem dX3_neverClosedBranches_61 : decode cX3_neverClosedBranches 61 = .ok (.iinc 2 1, 3) := by decide +kernel
theorem dX3_neverClosedBranches_64 : decode cX3_neverClosedBranches 64 = .ok (.goto (-60), 3) := by decide +kernel
theorem dX3_neverClosedBranches_67 : decode cX3_neverClosedBranches 67 = .ok (.iload_n 1, 1) := by decide +kernel
theorem dX3_neverClosedBranches_68 : decode cX3_neverClosedBranches 68 = .ok (.ireturn, 1) := by decide +kernel
set_option maxRecDepth 20000 in
theorem ggX4_init_X3_init : GoodIn wsX4_init wsX3_init := goodIn_r _ [26, 27, 2, 3, 28, 29, 30, 31, 32, 33, 34, 35, 36, 51, 52, 53, 54, 55, 56, 57, 58, 59, 60, 61, 62, 63, 64] (by decide +kernel) (by decide +kernel)
set_option maxRecDepth 20000 in
theorem gX4_init_X3_init : GoodIn wsX4_init (wsX3_init) := ggX4_init_X3_init
set_option maxRecDepth 20000 in
theorem ggX4_init_X1_init : GoodIn wsX4_init wsX1_init := goodIn_r _ [38, 39, 2, 3, 28, 40, 72, 73] (by decide +kernel) (by decide +kernel)
set_option maxRecDepth 20000 in
theorem gX4_init_X1_init_n21 : GoodIn wsX4_init (wsX1_init) := ggX4_init_X1_init
set_option maxRecDepth 20000 in
theorem ggX4_init_X2_init : GoodIn wsX4_init wsX2_init := goodIn_r _ [42, 43, 2, 3] (by decide +kernel) (by decide +kernel)
set_option maxRecDepth 20000 in
theorem gX4_init_X2_init_n28 : GoodIn wsX4_init (wsX2_init) := ggX4_init_X2_init
set_option maxRecDepth 20000 in
theorem ggX4_init_X0_init : GoodIn wsX4_init wsX0_init := goodIn_r _ [46, 47, 2, 3, 48, 49, 5, 6, 50, 25, 26, 27, 28, 29, 30, 31, 32, 33, 34, 35, 36, 76, 77, 78, 51, 52, 53, 54, 55, 56, 57, 58, 59, 60, 61, 62, 63, 64] (by decide +kernel) (by decide +kernel)
set_option maxRecDepth 20000 in
theorem gX4_init_X0_init : GoodIn wsX4_init (wsX0_init) := ggX4_init_X0_init
theorem dX4_init_0 : decode cX4_init 0 = .ok (.aload_n 0, 1) := by decide +kernel
theorem dX4_init_1 : decode cX4_init 1 = .ok (.invokespecial 3, 3) := by decide +kernel
theorem dX4_init_4 : decode cX4_init 4 = .ok (.aload_n 0, 1) := by decide +kernel
theorem dX4_init_5 : decode cX4_init 5 = .ok (.new 9, 3) := by decide +kernel
theorem dX4_init_8 : decode cX4_init 8 = .ok (.dup, 1) := by decide +kernel
theorem dX4_init_9 : decode cX4_init 9 = .ok (.invokespecial 11, 3) := by decide +kernel
theorem dX4_init_12 : decode cX4_init 12 = .ok (.putfield 12, 3) := by decide +kernel
theorem dX4_init_15 : decode cX4_init 15 = .ok (.aload_n 0, 1) := by decide +kernel
theorem dX4_init_16 : decode cX4_init 16 = .ok (.new 9, 3) := by decide +kernel
theorem dX4_init_19 : decode cX4_init 19 = .ok (.dup, 1) := by decide +kernel
theorem dX4_init_20 : decode cX4_init 20 = .ok (.invokespecial 11, 3) := by decide +kernel
theorem dX4_init_23 : decode cX4_init 23 = .ok (.putfield 16, 3) := by decide +kernel
theorem dX4_init_26 : decode cX4_init 26 = .ok (.aload_n 0, 1) := by decide +kernel
theorem dX4_init_27 : decode cX4_init 27 = .ok (.new 19, 3) := by decide +kernel
theorem dX4_init_30 : decode cX4_init 30 = .ok (.dup, 1) := by decide +kernel
theorem dX4_init_31 : decode cX4_init 31 = .ok (.invokespecial 21, 3) := by decide +kernel
theorem dX4_init_34 : decode cX4_init 34 = .ok (.putfield 22, 3) := by decide +kernel
theorem dX4_init_37 : decode cX4_init 37 = .ok (.aload_n 0, 1) := by decide +kernel
theorem dX4_init_38 : decode cX4_init 38 = .ok (.new 26, 3) := by decide +kernel
theorem dX4_init_41 : decode cX4_init 41 = .ok (.dup, 1) := by decide +kernel
theorem dX4_init_42 : decode cX4_init 42 = .ok (.invokespecial 28, 3) := by decide +kernel
theorem dX4_init_45 : decode cX4_init 45 = .ok (.putfield 29, 3) := by decide +kernel
theorem dX4_init_48 : decode cX4_init 48 = .ok (.aload_n 0, 1) := by decide +kernel
theorem dX4_init_49 : decode cX4_init 49 = .ok (.new 33, 3) := by decide +kernel
theorem dX4_init_52 : decode cX4_init 52 = .ok (.dup, 1) := by decide +kernel
theorem dX4_init_53 : decode cX4_init 53 = .ok (.invokespecial 35, 3) := by decide +kernel
theorem dX4_init_56 : decode cX4_init 56 = .ok (.putfield 36, 3) := by decide +kernel
theorem dX4_init_59 : decode cX4_init 59 = .ok (.aload_n 0, 1) := by decide +kernel
theorem dX4_init_60 : decode cX4_init 60 = .ok (.iconst 2, 1) := by decide +kernel
theorem dX4_init_61 : decode cX4_init 61 = .ok (.anewarray 9, 3) := by decide +kernel
theorem dX4_init_64 : decode cX4_init 64 = .ok (.putfield 40, 3) := by decide +kernel
theorem dX4_init_67 : decode cX4_init 67 = .ok (.aload_n 0, 1) := by decide +kernel
theorem dX4_init_68 : decode cX4_init 68 = .ok (.iconst 2, 1) := by decide +kernel
theorem dX4_init_69 : decode cX4_init 69 = .ok (.newarray .boolean, 2) := by decide +kernel
theorem dX4_init_71 : decode cX4_init 71 = .ok (.putfield 44, 3) := by decide +kernel
theorem dX4_init_74 : decode cX4_init 74 = .ok (.iconst 0, 1) := by decide +kernel
theorem dX4_init_75 : decode cX4_init 75 = .ok (.istore_n 1, 1) := by decide +kernel
theorem dX4_init_76 : decode cX4_init 76 = .ok (.iload_n 1, 1) := by decide +kernel
theorem dX4_init_77 : decode cX4_init 77 = .ok (.iconst 2, 1) := by decide +kernel
theorem dX4_init_78 : decode cX4_init 78 = .ok (.if_icmp .ge 22, 3) := by decide +kernel
theorem dX4_init_81 : decode cX4_init 81 = .ok (.aload_n 0, 1) := by decide +kernel
theorem dX4_init_82 : decode cX4_init 82 = .ok (.getfield 40, 3) := by decide +kernel
theorem dX4_init_85 : decode cX4_init 85 = .ok (.iload_n 1, 1) := by decide +kernel
theorem dX4_init_86 : decode cX4_init 86 = .ok (.new 9, 3) := by decide +kernel
theorem dX4_init_89 : decode cX4_init 89 = .ok (.dup, 1) := by decide +kernel
theorem dX4_init_90 : decode cX4_init 90 = .ok (.invokespecial 11, 3) := by decide +kernel
theorem dX4_init_93 : decode cX4_init 93 = .ok (.aastore, 1) := by decide +kernel
theorem dX4_init_94 : decode cX4_init 94 = .ok (.iinc 1 1, 3) := by decide +kernel
theorem dX4_init_97 : decode cX4_init 97 = .ok (.goto (-21), 3) := by decide +kernel
theorem dX4_init_100 : decode cX4_init 100 = .ok (.return_, 1) := by decide +kernel
set_option maxRecDepth 20000 in
theorem ggX4_time_X4_isRelay : GoodIn wsX4_time wsX4_isRelay := goodIn_r _ [8, 9, 10, 7, 11] (by decide +kernel) (by decide +kernel)
set_option maxRecDepth 20000 in
theorem gX4_time_X4_isRelay : GoodIn wsX4_time (va_wsS RX4 48 yX4_isRelay wsX4_isRelay) := goodIn_app (goodIn_of _ (by decide +kernel)) ggX4_time_X4_isRelay
set_option maxRecDepth 20000 in
theorem ggX4_time_X4_isWithin : GoodIn wsX4_time wsX4_isWithin := goodIn_r _ [11] (by decide +kernel) (by decide +kernel)
set_option maxRecDepth 20000 in
theorem gX4_time_X4_isWithin : GoodIn wsX4_time (va_wsS RX4 52 yX4_isWithin wsX4_isWithin) := goodIn_app (goodIn_of _ (by decide +kernel)) ggX4_time_X4_isWithin
set_option maxRecDepth 20000 in
theorem ggX4_time_X0_record : GoodIn wsX4_time wsX0_record := goodIn_r _ [16, 17, 18, 19, 20, 21, 22, 23, 24, 25, 26, 27, 28, 29, 30, 31, 32, 33, 34, 35, 36, 37, 38, 39, 40, 41, 42, 64, 65, 66, 50, 51, 52, 53, 54, 55, 56, 57, 58, 59, 60, 61, 62, 63] (by decide +kernel) (by decide +kernel)
set_option maxRecDepth 20000 in
theorem gX4_time_X0_record : GoodIn wsX4_time (wsV RX4 56 RX0 yX0_record wsX0_record) := goodIn_app (goodIn_of _ (by decide +kernel)) ggX4_time_X0_record
theorem dX4_time_0 : decode cX4_time 0 = .ok (.iload_n 1, 1) := by decide +kernel
theorem dX4_time_1 : decode cX4_time 1 = .ok (.invokestatic 48, 3) := by decide +kernel
theorem dX4_time_4 : decode cX4_time 4 = .ok (.ifCond .ne 5, 3) := by decide +kernel
theorem dX4_time_7 : decode cX4_time 7 = .ok (.iconst (-1), 1) := by decide +kernel
theorem dX4_time_8 : decode cX4_time 8 = .ok (.ireturn, 1) := by decide +kernel
theorem dX4_time_9 : decode cX4_time 9 = .ok (.iload_n 3, 1) := by decide +kernel
theorem dX4_time_10 : decode cX4_time 10 = .ok (.iconst 1, 1) := by decide +kernel
theorem dX4_time_11 : decode cX4_time 11 = .ok (.bipush 9, 2) := by decide +kernel
theorem dX4_time_13 : decode cX4_time 13 = .ok (.invokestatic 52, 3) := by decide +kernel
theorem dX4_time_16 : decode cX4_time 16 = .ok (.ifCond .ne 6, 3) := by decide +kernel
theorem dX4_time_19 : decode cX4_time 19 = .ok (.bipush (-2), 2) := by decide +kernel
theorem dX4_time_21 : decode cX4_time 21 = .ok (.ireturn, 1) := by decide +kernel
theorem dX4_time_22 : decode cX4_time 22 = .ok (.aload_n 0, 1) := by decide +kernel
theorem dX4_time_23 : decode cX4_time 23 = .ok (.getfield 36, 3) := by decide +kernel
theorem dX4_time_26 : decode cX4_time 26 = .ok (.aload_n 0, 1) := by decide +kernel
theorem dX4_time_27 : decode cX4_time 27 = .ok (.getfield 12, 3) := by decide +kernel
theorem dX4_time_30 : decode cX4_time 30 = .ok (.invokevirtual 56, 3) := by decide +kernel
theorem dX4_time_33 : decode cX4_time 33 = .ok (.iload_n 2, 1) := by decide +kernel
theorem dX4_time_34 : decode cX4_time 34 = .ok (.ifCond .eq 13, 3) := by decide +kernel
theorem dX4_time_37 : decode cX4_time 37 = .ok (.aload_n 0, 1) := by decide +kernel
theorem dX4_time_38 : decode cX4_time 38 = .ok (.getfield 12, 3) := by decide +kernel
theorem dX4_time_41 : decode cX4_time 41 = .ok (.getfield 60, 3) := by decide +kernel
theorem dX4_time_44 : decode cX4_time 44 = .ok (.goto 10, 3) := by decide +kernel
theorem dX4_time_47 : decode cX4_time 47 = .ok (.aload_n 0, 1) := by decide +kernel
theorem dX4_time_48 : decode cX4_time 48 = .ok (.getfield 12, 3) := by decide +kernel
theorem dX4_time_51 : decode cX4_time 51 = .ok (.getfield 64, 3) := by decide +kernel
theorem dX4_time_54 : decode cX4_time 54 = .ok (.astore 4, 2) := by decide +kernel
theorem dX4_time_56 : decode cX4_time 56 = .ok (.aload 4, 2) := by decide +kernel
theorem dX4_time_58 : decode cX4_time 58 = .ok (.iload_n 1, 1) := by decide +kernel
theorem dX4_time_59 : decode cX4_time 59 = .ok (.iaload, 1) := by decide +kernel
theorem dX4_time_60 : decode cX4_time 60 = .ok (.istore 5, 2) := by decide +kernel
theorem dX4_time_62 : decode cX4_time 62 = .ok (.aload 4, 2) := by decide +kernel
theorem dX4_time_64 : decode cX4_time 64 = .ok (.iload_n 1, 1) := by decide +kernel
theorem dX4_time_65 : decode cX4_time 65 = .ok (.iload_n 3, 1) := by decide +kernel
theorem dX4_time_66 : decode cX4_time 66 = .ok (.iastore, 1) := by decide +kernel
theorem dX4_time_67 : decode cX4_time 67 = .ok (.iload 5, 2) := by decide +kernel
theorem dX4_time_69 : decode cX4_time 69 = .ok (.ireturn, 1) := by decide +kernel
set_option maxRecDepth 20000 in
theorem ggX4_life_X4_isWithin : GoodIn wsX4_life wsX4_isWithin := goodIn_r _ [7] (by decide +kernel) (by decide +kernel)
set_option maxRecDepth 20000 in
theorem gX4_life_X4_isWithin : GoodIn wsX4_life (va_wsS RX4 52 yX4_isWithin wsX4_isWithin) := goodIn_app (goodIn_of _ (by decide +kernel)) ggX4_life_X4_isWithin
set_option maxRecDepth 20000 in
theorem ggX4_life_X0_record : GoodIn wsX4_life wsX0_record := goodIn_r _ [12, 13, 14, 15, 16, 17, 18, 19, 20, 21, 22, 23, 24, 25, 26, 27, 28, 29, 30, 31, 32, 33, 34, 35, 36, 37, 38, 60, 61, 62, 46, 47, 48, 49, 50, 51, 52, 53, 54, 55, 56, 57, 58, 59] (by decide +kernel) (by decide +kernel)
set_option maxRecDepth 20000 in
theorem gX4_life_X0_record : GoodIn wsX4_life (wsV RX4 56 RX0 yX0_record wsX0_record) := goodIn_app (goodIn_of _ (by decide +kernel)) ggX4_life_X0_record
theorem dX4_life_0 : decode cX4_life 0 = .ok (.iload_n 1, 1) := by decide +kernel
theorem dX4_life_1 : decode cX4_life 1 = .ok (.iconst 0, 1) := by decide +kernel
theorem dX4_life_2 : decode cX4_life 2 = .ok (.bipush 99, 2) := by decide +kernel
theorem dX4_life_4 : decode cX4_life 4 = .ok (.invokestatic 52, 3) := by decide +kernel
theorem dX4_life_7 : decode cX4_life 7 = .ok (.ifCond .ne 6, 3) := by decide +kernel
theorem dX4_life_10 : decode cX4_life 10 = .ok (.bipush (-2), 2) := by decide +kernel
theorem dX4_life_12 : decode cX4_life 12 = .ok (.ireturn, 1) := by decide +kernel
theorem dX4_life_13 : decode cX4_life 13 = .ok (.aload_n 0, 1) := by decide +kernel
theorem dX4_life_14 : decode cX4_life 14 = .ok (.getfield 36, 3) := by decide +kernel
theorem dX4_life_17 : decode cX4_life 17 = .ok (.aload_n 0, 1) := by decide +kernel
theorem dX4_life_18 : decode cX4_life 18 = .ok (.getfield 12, 3) := by decide +kernel
theorem dX4_life_21 : decode cX4_life 21 = .ok (.invokevirtual 56, 3) := by decide +kernel
theorem dX4_life_24 : decode cX4_life 24 = .ok (.aload_n 0, 1) := by decide +kernel
theorem dX4_life_25 : decode cX4_life 25 = .ok (.getfield 12, 3) := by decide +kernel
theorem dX4_life_28 : decode cX4_life 28 = .ok (.getfield 67, 3) := by decide +kernel
theorem dX4_life_31 : decode cX4_life 31 = .ok (.istore_n 2, 1) := by decide +kernel
theorem dX4_life_32 : decode cX4_life 32 = .ok (.aload_n 0, 1) := by decide +kernel
theorem dX4_life_33 : decode cX4_life 33 = .ok (.getfield 12, 3) := by decide +kernel
theorem dX4_life_36 : decode cX4_life 36 = .ok (.iload_n 1, 1) := by decide +kernel
theorem dX4_life_37 : decode cX4_life 37 = .ok (.putfield 67, 3) := by decide +kernel
theorem dX4_life_40 : decode cX4_life 40 = .ok (.iload_n 2, 1) := by decide +kernel
theorem dX4_life_41 : decode cX4_life 41 = .ok (.ireturn, 1) := by decide +kernel
set_option maxRecDepth 20000 in
theorem ggX4_read_X3_copyFrom : GoodIn wsX4_read wsX3_copyFrom := goodIn_r _ [10, 11, 12, 13, 14, 15, 16, 17, 18, 19, 20, 21, 22, 23, 24, 25, 26, 27, 28, 124, 125, 126, 127, 128, 129, 130, 131, 132, 133, 134, 135, 136, 137] (by decide +kernel) (by decide +kernel)
set_option maxRecDepth 20000 in
theorem gX4_read_X3_copyFrom : GoodIn wsX4_read (wsV RX4 71 RX3 yX3_copyFrom wsX3_copyFrom) := goodIn_app (goodIn_of _ (by decide +kernel)) ggX4_read_X3_copyFrom
set_option maxRecDepth 20000 in
theorem ggX4_read_X2_readInto : GoodIn wsX4_read wsX2_readInto := goodIn_r _ [33, 34, 35, 36, 37, 38, 39, 32, 40, 41, 42, 43, 44, 45, 46, 47, 48, 49, 50, 51, 52, 53, 54, 55, 56, 57, 58, 59, 60, 61, 62, 63, 64, 65, 9, 66, 25, 67, 68, 69, 70, 71, 72, 73, 74, 26, 27, 28, 75, 76, 77, 78, 79, 80, 81, 82, 83, 84, 85, 86, 87, 88, 89, 90, 91, 92, 93, 94, 95, 96, 97, 138, 139, 140, 141, 124, 125, 126, 127, 128, 129, 130, 131, 132, 133, 134, 135, 136, 137] (by decide +kernel) (by decide +kernel)
set_option maxRecDepth 20000 in
theorem gX4_read_X2_readInto : GoodIn wsX4_read (wsV RX4 74 RX2 yX2_readInto wsX2_readInto) := goodIn_app (goodIn_of _ (by decide +kernel)) ggX4_read_X2_readInto
set_option maxRecDepth 20000 in
theorem ggX4_read_X0_record : GoodIn wsX4_read wsX0_record := goodIn_r _ [102, 103, 104, 105, 106, 7, 8, 9, 10, 11, 12, 13, 14, 15, 16, 17, 18, 19, 20, 21, 22, 23, 24, 25, 26, 27, 28, 142, 143, 144, 124, 125, 126, 127, 128, 129, 130, 131, 132, 133, 134, 135, 136, 137] (by decide +kernel) (by decide +kernel)
set_option maxRecDepth 20000 in
theorem gX4_read_X0_record : GoodIn wsX4_read (wsV RX4 56 RX0 yX0_record wsX0_record) := goodIn_app (goodIn_of _ (by decide +kernel)) ggX4_read_X0_record
set_option maxRecDepth 20000 in
theorem ggX4_read_X1_clear : GoodIn wsX4_read wsX1_clear := goodIn_r _ [111, 112, 140, 141] (by decide +kernel) (by decide +kernel)
set_option maxRecDepth 20000 in
theorem gX4_read_X1_clear : GoodIn wsX4_read (wsV RX4 78 RX1 yX1_clear wsX1_clear) := goodIn_app (goodIn_of _ (by decide +kernel)) ggX4_read_X1_clear
set_option maxRecDepth 20000 in
theorem ggX4_read_X3_relaysWithBranches : GoodIn wsX4_read wsX3_relaysWithBranches := goodIn_r _ [116, 25, 124, 125, 126, 127, 128, 129, 130, 131, 132, 133, 134, 135, 136, 137] (by decide +kernel) (by decide +kernel)
set_option maxRecDepth 20000 in
theorem gX4_read_X3_relaysWithBranches : GoodIn wsX4_read (wsV RX4 81 RX3 yX3_relaysWithBranches wsX3_relaysWithBranches) := goodIn_app (goodIn_of _ (by decide +kernel)) ggX4_read_X3_relaysWithBranches
theorem dX4_read_0 : decode cX4_read 0 = .ok (.aload_n 0, 1) := by decide +kernel
theorem dX4_read_1 : decode cX4_read 1 = .ok (.getfield 16, 3) := by decide +kernel
theorem dX4_read_4 : decode cX4_read 4 = .ok (.aload_n 0, 1) := by decide +kernel
theorem dX4_read_5 : decode cX4_read 5 = .ok (.getfield 12, 3) := by decide +kernel
theorem dX4_read_8 : decode cX4_read 8 = .ok (.invokevirtual 71, 3) := by decide +kernel
theorem dX4_read_11 : decode cX4_read 11 = .ok (.aload_n 0, 1) := by decide +kernel
theorem dX4_read_12 : decode cX4_read 12 = .ok (.getfield 29, 3) := by decide +kernel
theorem dX4_read_15 : decode cX4_read 15 = .ok (.aload_n 0, 1) := by decide +kernel
theorem dX4_read_16 : decode cX4_read 16 = .ok (.getfield 16, 3) := by decide +kernel
theorem dX4_read_19 : decode cX4_read 19 = .ok (.aload_n 0, 1) := by decide +kernel
theorem dX4_read_20 : decode cX4_read 20 = .ok (.getfield 22, 3) := by decide +kernel
theorem dX4_read_23 : decode cX4_read 23 = .ok (.invokevirtual 74, 3) := by decide +kernel
theorem dX4_read_26 : decode cX4_read 26 = .ok (.bipush (-6), 2) := by decide +kernel
theorem dX4_read_28 : decode cX4_read 28 = .ok (.if_icmp .eq 6, 3) := by decide +kernel
theorem dX4_read_31 : decode cX4_read 31 = .ok (.bipush (-3), 2) := by decide +kernel
theorem dX4_read_33 : decode cX4_read 33 = .ok (.ireturn, 1) := by decide +kernel
theorem dX4_read_34 : decode cX4_read 34 = .ok (.aload_n 0, 1) := by decide +kernel
theorem dX4_read_35 : decode cX4_read 35 = .ok (.getfield 36, 3) := by decide +kernel
theorem dX4_read_38 : decode cX4_read 38 = .ok (.aload_n 0, 1) := by decide +kernel
theorem dX4_read_39 : decode cX4_read 39 = .ok (.getfield 12, 3) := by decide +kernel
theorem dX4_read_42 : decode cX4_read 42 = .ok (.invokevirtual 56, 3) := by decide +kernel
theorem dX4_read_45 : decode cX4_read 45 = .ok (.aload_n 0, 1) := by decide +kernel
theorem dX4_read_46 : decode cX4_read 46 = .ok (.getfield 12, 3) := by decide +kernel
theorem dX4_read_49 : decode cX4_read 49 = .ok (.aload_n 0, 1) := by decide +kernel
theorem dX4_read_50 : decode cX4_read 50 = .ok (.getfield 16, 3) := by decide +kernel
theorem dX4_read_53 : decode cX4_read 53 = .ok (.invokevirtual 71, 3) := by decide +kernel
theorem dX4_read_56 : decode cX4_read 56 = .ok (.aload_n 0, 1) := by decide +kernel
theorem dX4_read_57 : decode cX4_read 57 = .ok (.getfield 22, 3) := by decide +kernel
theorem dX4_read_60 : decode cX4_read 60 = .ok (.invokevirtual 78, 3) := by decide +kernel
theorem dX4_read_63 : decode cX4_read 63 = .ok (.aload_n 0, 1) := by decide +kernel
theorem dX4_read_64 : decode cX4_read 64 = .ok (.getfield 12, 3) := by decide +kernel
theorem dX4_read_67 : decode cX4_read 67 = .ok (.invokevirtual 81, 3) := by decide +kernel
theorem dX4_read_70 : decode cX4_read 70 = .ok (.ireturn, 1) := by decide +kernel
set_option maxRecDepth 20000 in
theorem ggX4_press_X4_isWithin : GoodIn wsX4_press wsX4_isWithin := goodIn_r _ [7] (by decide +kernel) (by decide +kernel)
set_option maxRecDepth 20000 in
theorem gX4_press_X4_isWithin : GoodIn wsX4_press (va_wsS RX4 52 yX4_isWithin wsX4_isWithin) := goodIn_app (goodIn_of _ (by decide +kernel)) ggX4_press_X4_isWithin
set_option maxRecDepth 20000 in
theorem ggX4_press_X4_isIn : GoodIn wsX4_press wsX4_isIn := goodIn_r _ [10, 11, 12, 6, 13] (by decide +kernel) (by decide +kernel)
set_option maxRecDepth 20000 in
theorem gX4_press_X4_isIn : GoodIn wsX4_press (va_wsS RX4 88 yX4_isIn wsX4_isIn) := goodIn_app (goodIn_of _ (by decide +kernel)) ggX4_press_X4_isIn
set_option maxRecDepth 20000 in
theorem ggX4_press_X0_record : GoodIn wsX4_press wsX0_record := goodIn_r _ [18, 19, 20, 21, 22, 23, 24, 25, 26, 27, 28, 29, 30, 31, 32, 33, 34, 35, 36, 37, 38, 39, 40, 41, 42, 43, 44, 84, 85, 86, 70, 71, 72, 73, 74, 75, 76, 77, 78, 79, 80, 81, 82, 83] (by decide +kernel) (by decide +kernel)
set_option maxRecDepth 20000 in
theorem gX4_press_X0_record : GoodIn wsX4_press (wsV RX4 56 RX0 yX0_record wsX0_record) := goodIn_app (goodIn_of _ (by decide +kernel)) ggX4_press_X0_record
set_option maxRecDepth 20000 in
theorem ggX4_press_X3_wantingRelays : GoodIn wsX4_press wsX3_wantingRelays := goodIn_r _ [48, 27, 28, 49, 50, 51, 25, 52, 53, 54, 55, 56, 41, 57, 6, 58, 59, 60, 61, 62, 29, 42, 43, 70, 71, 72, 73, 74, 75, 76, 77, 78, 79, 80, 81, 82, 83] (by decide +kernel) (by decide +kernel)
set_option maxRecDepth 20000 in
theorem gX4_press_X3_wantingRelays : GoodIn wsX4_press (wsV RX4 92 RX3 yX3_wantingRelays wsX3_wantingRelays) := goodIn_app (goodIn_of _ (by decide +kernel)) ggX4_press_X3_wantingRelays
theorem dX4_press_0 : decode cX4_press 0 = .ok (.iload_n 1, 1) := by decide +kernel
theorem dX4_press_1 : decode cX4_press 1 = .ok (.iconst 0, 1) := by decide +kernel
theorem dX4_press_2 : decode cX4_press 2 = .ok (.iconst 5, 1) := by decide +kernel
theorem dX4_press_3 : decode cX4_press 3 = .ok (.invokestatic 52, 3) := by decide +kernel
theorem dX4_press_6 : decode cX4_press 6 = .ok (.ifCond .ne 5, 3) := by decide +kernel
theorem dX4_press_9 : decode cX4_press 9 = .ok (.iconst (-1), 1) := by decide +kernel
theorem dX4_press_10 : decode cX4_press 10 = .ok (.ireturn, 1) := by decide +kernel
theorem dX4_press_11 : decode cX4_press 11 = .ok (.aload_n 0, 1) := by decide +kernel
theorem dX4_press_12 : decode cX4_press 12 = .ok (.getfield 12, 3) := by decide +kernel
theorem dX4_press_15 : decode cX4_press 15 = .ok (.getfield 85, 3) := by decide +kernel
theorem dX4_press_18 : decode cX4_press 18 = .ok (.iload_n 1, 1) := by decide +kernel
theorem dX4_press_19 : decode cX4_press 19 = .ok (.invokestatic 88, 3) := by decide +kernel
theorem dX4_press_22 : decode cX4_press 22 = .ok (.iload_n 2, 1) := by decide +kernel
theorem dX4_press_23 : decode cX4_press 23 = .ok (.if_icmp .ne 6, 3) := by decide +kernel
theorem dX4_press_26 : decode cX4_press 26 = .ok (.bipush (-5), 2) := by decide +kernel
theorem dX4_press_28 : decode cX4_press 28 = .ok (.ireturn, 1) := by decide +kernel
theorem dX4_press_29 : decode cX4_press 29 = .ok (.aload_n 0, 1) := by decide +kernel
theorem dX4_press_30 : decode cX4_press 30 = .ok (.getfield 36, 3) := by decide +kernel
theorem dX4_press_33 : decode cX4_press 33 = .ok (.aload_n 0, 1) := by decide +kernel
theorem dX4_press_34 : decode cX4_press 34 = .ok (.getfield 12, 3) := by decide +kernel
theorem dX4_press_37 : decode cX4_press 37 = .ok (.invokevirtual 56, 3) := by decide +kernel
theorem dX4_press_40 : decode cX4_press 40 = .ok (.aload_n 0, 1) := by decide +kernel
theorem dX4_press_41 : decode cX4_press 41 = .ok (.getfield 12, 3) := by decide +kernel
theorem dX4_press_44 : decode cX4_press 44 = .ok (.dup, 1) := by decide +kernel
theorem dX4_press_45 : decode cX4_press 45 = .ok (.getfield 85, 3) := by decide +kernel
theorem dX4_press_48 : decode cX4_press 48 = .ok (.iconst 1, 1) := by decide +kernel
theorem dX4_press_49 : decode cX4_press 49 = .ok (.iload_n 1, 1) := by decide +kernel
theorem dX4_press_50 : decode cX4_press 50 = .ok (.ishl, 1) := by decide +kernel
theorem dX4_press_51 : decode cX4_press 51 = .ok (.ixor, 1) := by decide +kernel
theorem dX4_press_52 : decode cX4_press 52 = .ok (.putfield 85, 3) := by decide +kernel
theorem dX4_press_55 : decode cX4_press 55 = .ok (.aload_n 0, 1) := by decide +kernel
theorem dX4_press_56 : decode cX4_press 56 = .ok (.getfield 12, 3) := by decide +kernel
theorem dX4_press_59 : decode cX4_press 59 = .ok (.invokevirtual 92, 3) := by decide +kernel
theorem dX4_press_62 : decode cX4_press 62 = .ok (.ireturn, 1) := by decide +kernel
set_option maxRecDepth 20000 in
theorem ggX4_weld_X4_isRelay : GoodIn wsX4_weld wsX4_isRelay := goodIn_r _ [9, 10, 11, 8, 12] (by decide +kernel) (by decide +kernel)
set_option maxRecDepth 20000 in
theorem gX4_weld_X4_isRelay : GoodIn wsX4_weld (va_wsS RX4 48 yX4_isRelay wsX4_isRelay) := goodIn_app (goodIn_of _ (by decide +kernel)) ggX4_weld_X4_isRelay
set_option maxRecDepth 20000 in
theorem ggX4_weld_X4_isIn : GoodIn wsX4_weld wsX4_isIn := goodIn_r _ [15, 16, 17, 8, 18] (by decide +kernel) (by decide +kernel)
set_option maxRecDepth 20000 in
theorem gX4_weld_X4_isIn : GoodIn wsX4_weld (va_wsS RX4 88 yX4_isIn wsX4_isIn) := goodIn_app (goodIn_of _ (by decide +kernel)) ggX4_weld_X4_isIn
set_option maxRecDepth 20000 in
theorem ggX4_weld_X0_record : GoodIn wsX4_weld wsX0_record := goodIn_r _ [23, 24, 25, 26, 27, 28, 29, 30, 31, 32, 33, 34, 35, 36, 37, 38, 39, 40, 41, 42, 43, 44, 45, 46, 47, 48, 49, 71, 72, 73, 57, 58, 59, 60, 61, 62, 63, 64, 65, 66, 67, 68, 69, 70] (by decide +kernel) (by decide +kernel)
set_option maxRecDepth 20000 in
theorem gX4_weld_X0_record : GoodIn wsX4_weld (wsV RX4 56 RX0 yX0_record wsX0_record) := goodIn_app (goodIn_of _ (by decide +kernel)) ggX4_weld_X0_record
theorem dX4_weld_0 : decode cX4_weld 0 = .ok (.iload_n 1, 1) := by decide +kernel
theorem dX4_weld_1 : decode cX4_weld 1 = .ok (.invokestatic 48, 3) := by decide +kernel
theorem dX4_weld_4 : decode cX4_weld 4 = .ok (.ifCond .ne 5, 3) := by decide +kernel
theorem dX4_weld_7 : decode cX4_weld 7 = .ok (.iconst (-1), 1) := by decide +kernel
theorem dX4_weld_8 : decode cX4_weld 8 = .ok (.ireturn, 1) := by decide +kernel
theorem dX4_weld_9 : decode cX4_weld 9 = .ok (.aload_n 0, 1) := by decide +kernel
theorem dX4_weld_10 : decode cX4_weld 10 = .ok (.getfield 12, 3) := by decide +kernel
theorem dX4_weld_13 : decode cX4_weld 13 = .ok (.getfield 95, 3) := by decide +kernel
theorem dX4_weld_16 : decode cX4_weld 16 = .ok (.iload_n 1, 1) := by decide +kernel
theorem dX4_weld_17 : decode cX4_weld 17 = .ok (.invokestatic 88, 3) := by decide +kernel
theorem dX4_weld_20 : decode cX4_weld 20 = .ok (.ifCond .ne 7, 3) := by decide +kernel
theorem dX4_weld_23 : decode cX4_weld 23 = .ok (.iconst 1, 1) := by decide +kernel
theorem dX4_weld_24 : decode cX4_weld 24 = .ok (.goto 4, 3) := by decide +kernel
theorem dX4_weld_27 : decode cX4_weld 27 = .ok (.iconst 0, 1) := by decide +kernel
theorem dX4_weld_28 : decode cX4_weld 28 = .ok (.istore_n 3, 1) := by decide +kernel
theorem dX4_weld_29 : decode cX4_weld 29 = .ok (.aload_n 0, 1) := by decide +kernel
theorem dX4_weld_30 : decode cX4_weld 30 = .ok (.getfield 12, 3) := by decide +kernel
theorem dX4_weld_33 : decode cX4_weld 33 = .ok (.getfield 98, 3) := by decide +kernel
theorem dX4_weld_36 : decode cX4_weld 36 = .ok (.iload_n 1, 1) := by decide +kernel
theorem dX4_weld_37 : decode cX4_weld 37 = .ok (.invokestatic 88, 3) := by decide +kernel
theorem dX4_weld_40 : decode cX4_weld 40 = .ok (.iload_n 2, 1) := by decide +kernel
theorem dX4_weld_41 : decode cX4_weld 41 = .ok (.if_icmp .eq 11, 3) := by decide +kernel
theorem dX4_weld_44 : decode cX4_weld 44 = .ok (.iload_n 2, 1) := by decide +kernel
theorem dX4_weld_45 : decode cX4_weld 45 = .ok (.ifCond .eq 10, 3) := by decide +kernel
theorem dX4_weld_48 : decode cX4_weld 48 = .ok (.iload_n 3, 1) := by decide +kernel
theorem dX4_weld_49 : decode cX4_weld 49 = .ok (.ifCond .eq 6, 3) := by decide +kernel
theorem dX4_weld_52 : decode cX4_weld 52 = .ok (.bipush (-5), 2) := by decide +kernel
theorem dX4_weld_54 : decode cX4_weld 54 = .ok (.ireturn, 1) := by decide +kernel
theorem dX4_weld_55 : decode cX4_weld 55 = .ok (.aload_n 0, 1) := by decide +kernel
theorem dX4_weld_56 : decode cX4_weld 56 = .ok (.getfield 36, 3) := by decide +kernel
theorem dX4_weld_59 : decode cX4_weld 59 = .ok (.aload_n 0, 1) := by decide +kernel
theorem dX4_weld_60 : decode cX4_weld 60 = .ok (.getfield 12, 3) := by decide +kernel
theorem dX4_weld_63 : decode cX4_weld 63 = .ok (.invokevirtual 56, 3) := by decide +kernel
theorem dX4_weld_66 : decode cX4_weld 66 = .ok (.aload_n 0, 1) := by decide +kernel
theorem dX4_weld_67 : decode cX4_weld 67 = .ok (.getfield 12, 3) := by decide +kernel
theorem dX4_weld_70 : decode cX4_weld 70 = .ok (.getfield 101, 3) := by decide +kernel
theorem dX4_weld_73 : decode cX4_weld 73 = .ok (.iload_n 1, 1) := by decide +kernel
theorem dX4_weld_74 : decode cX4_weld 74 = .ok (.iaload, 1) := by decide +kernel
theorem dX4_weld_75 : decode cX4_weld 75 = .ok (.istore 4, 2) := by decide +kernel
theorem dX4_weld_77 : decode cX4_weld 77 = .ok (.aload_n 0, 1) := by decide +kernel
theorem dX4_weld_78 : decode cX4_weld 78 = .ok (.getfield 12, 3) := by decide +kernel
theorem dX4_weld_81 : decode cX4_weld 81 = .ok (.dup, 1) := by decide +kernel
theorem dX4_weld_82 : decode cX4_weld 82 = .ok (.getfield 98, 3) := by decide +kernel
theorem dX4_weld_85 : decode cX4_weld 85 = .ok (.iconst 1, 1) := by decide +kernel
theorem dX4_weld_86 : decode cX4_weld 86 = .ok (.iload_n 1, 1) := by decide +kernel
theorem dX4_weld_87 : decode cX4_weld 87 = .ok (.ishl, 1) := by decide +kernel
theorem dX4_weld_88 : decode cX4_weld 88 = .ok (.ixor, 1) := by decide +kernel
theorem dX4_weld_89 : decode cX4_weld 89 = .ok (.putfield 98, 3) := by decide +kernel
theorem dX4_weld_92 : decode cX4_weld 92 = .ok (.iload_n 2, 1) := by decide +kernel
theorem dX4_weld_93 : decode cX4_weld 93 = .ok (.ifCond .ne 13, 3) := by decide +kernel
theorem dX4_weld_96 : decode cX4_weld 96 = .ok (.aload_n 0, 1) := by decide +kernel
theorem dX4_weld_97 : decode cX4_weld 97 = .ok (.getfield 12, 3) := by decide +kernel
theorem dX4_weld_100 : decode cX4_weld 100 = .ok (.getfield 101, 3) := by decide +kernel
theorem dX4_weld_103 : decode cX4_weld 103 = .ok (.iload_n 1, 1) := by decide +kernel
theorem dX4_weld_104 : decode cX4_weld 104 = .ok (.iconst 0, 1) := by decide +kernel
theorem dX4_weld_105 : decode cX4_weld 105 = .ok (.iastore, 1) := by decide +kernel
theorem dX4_weld_106 : decode cX4_weld 106 = .ok (.iload 4, 2) := by decide +kernel
theorem dX4_weld_108 : decode cX4_weld 108 = .ok (.ireturn, 1) := by decide +kernel
set_option maxRecDepth 20000 in
theorem ggX4_pass_X4_isWithin : GoodIn wsX4_pass wsX4_isWithin := goodIn_r _ [7] (by decide +kernel) (by decide +kernel)
set_option maxRecDepth 20000 in
theorem gX4_pass_X4_isWithin : GoodIn wsX4_pass (va_wsS RX4 52 yX4_isWithin wsX4_isWithin) := goodIn_app (goodIn_of _ (by decide +kernel)) ggX4_pass_X4_isWithin
set_option maxRecDepth 20000 in
theorem ggX4_pass_X0_record : GoodIn wsX4_pass wsX0_record := goodIn_r _ [12, 13, 14, 15, 16, 17, 18, 19, 20, 21, 22, 23, 24, 25, 26, 27, 28, 29, 30, 31, 32, 33, 34, 35, 36, 37, 38, 99, 100, 101, 85, 86, 87, 88, 89, 90, 91, 92, 93, 94, 95, 96, 97, 98] (by decide +kernel) (by decide +kernel)
set_option maxRecDepth 20000 in
theorem gX4_pass_X0_record : GoodIn wsX4_pass (wsV RX4 56 RX0 yX0_record wsX0_record) := goodIn_app (goodIn_of _ (by decide +kernel)) ggX4_pass_X0_record
set_option maxRecDepth 20000 in
theorem ggX4_pass_X3_passTicks : GoodIn wsX4_pass wsX3_passTicks := goodIn_r _ [42, 43, 44, 45, 19, 46, 21, 22, 47, 48, 49, 50, 51, 52, 53, 54, 35, 55, 6, 56, 57, 58, 59, 60, 23, 36, 37, 61, 62, 63, 64, 25, 33, 65, 66, 67, 68, 69, 70, 71, 72, 73, 32, 27, 26, 74, 75, 76, 77, 34, 24, 85, 86, 87, 88, 89, 90, 91, 92, 93, 94, 95, 96, 97, 98] (by decide +kernel) (by decide +kernel)
set_option maxRecDepth 20000 in
theorem gX4_pass_X3_passTicks : GoodIn wsX4_pass (wsV RX4 107 RX3 yX3_passTicks wsX3_passTicks) := goodIn_app (goodIn_of _ (by decide +kernel)) ggX4_pass_X3_passTicks
theorem dX4_pass_0 : decode cX4_pass 0 = .ok (.iload_n 1, 1) := by decide +kernel
theorem dX4_pass_1 : decode cX4_pass 1 = .ok (.iconst 1, 1) := by decide +kernel
theorem dX4_pass_2 : decode cX4_pass 2 = .ok (.sipush 200, 3) := by decide +kernel
theorem dX4_pass_5 : decode cX4_pass 5 = .ok (.invokestatic 52, 3) := by decide +kernel
theorem dX4_pass_8 : decode cX4_pass 8 = .ok (.ifCond .ne 6, 3) := by decide +kernel
theorem dX4_pass_11 : decode cX4_pass 11 = .ok (.bipush (-2), 2) := by decide +kernel
theorem dX4_pass_13 : decode cX4_pass 13 = .ok (.ireturn, 1) := by decide +kernel
theorem dX4_pass_14 : decode cX4_pass 14 = .ok (.aload_n 0, 1) := by decide +kernel
theorem dX4_pass_15 : decode cX4_pass 15 = .ok (.getfield 36, 3) := by decide +kernel
theorem dX4_pass_18 : decode cX4_pass 18 = .ok (.aload_n 0, 1) := by decide +kernel
theorem dX4_pass_19 : decode cX4_pass 19 = .ok (.getfield 12, 3) := by decide +kernel
theorem dX4_pass_22 : decode cX4_pass 22 = .ok (.invokevirtual 56, 3) := by decide +kernel
theorem dX4_pass_25 : decode cX4_pass 25 = .ok (.aload_n 0, 1) := by decide +kernel
theorem dX4_pass_26 : decode cX4_pass 26 = .ok (.getfield 12, 3) := by decide +kernel
theorem dX4_pass_29 : decode cX4_pass 29 = .ok (.getfield 104, 3) := by decide +kernel
theorem dX4_pass_32 : decode cX4_pass 32 = .ok (.istore_n 2, 1) := by decide +kernel
theorem dX4_pass_33 : decode cX4_pass 33 = .ok (.aload_n 0, 1) := by decide +kernel
theorem dX4_pass_34 : decode cX4_pass 34 = .ok (.getfield 12, 3) := by decide +kernel
theorem dX4_pass_37 : decode cX4_pass 37 = .ok (.iload_n 1, 1) := by decide +kernel
theorem dX4_pass_38 : decode cX4_pass 38 = .ok (.invokevirtual 107, 3) := by decide +kernel
theorem dX4_pass_41 : decode cX4_pass 41 = .ok (.aload_n 0, 1) := by decide +kernel
theorem dX4_pass_42 : decode cX4_pass 42 = .ok (.getfield 12, 3) := by decide +kernel
theorem dX4_pass_45 : decode cX4_pass 45 = .ok (.getfield 104, 3) := by decide +kernel
theorem dX4_pass_48 : decode cX4_pass 48 = .ok (.iload_n 2, 1) := by decide +kernel
theorem dX4_pass_49 : decode cX4_pass 49 = .ok (.isub, 1) := by decide +kernel
theorem dX4_pass_50 : decode cX4_pass 50 = .ok (.ireturn, 1) := by decide +kernel
set_option maxRecDepth 20000 in
theorem ggX4_settle_X0_record : GoodIn wsX4_settle wsX0_record := goodIn_r _ [7, 8, 9, 10, 11, 12, 13, 14, 15, 16, 17, 18, 19, 20, 21, 22, 23, 24, 25, 26, 27, 28, 29, 30, 31, 32, 33, 81, 82, 83, 84, 85, 86, 87, 88, 89, 90, 91, 92, 93, 94, 95, 96, 97] (by decide +kernel) (by decide +kernel)
set_option maxRecDepth 20000 in
theorem gX4_settle_X0_record : GoodIn wsX4_settle (wsV RX4 56 RX0 yX0_record wsX0_record) := goodIn_app (goodIn_of _ (by decide +kernel)) ggX4_settle_X0_record
set_option maxRecDepth 20000 in
theorem ggX4_settle_X3_ticksUntilRest : GoodIn wsX4_settle wsX3_ticksUntilRest := goodIn_r _ [37, 38, 39, 40, 14, 41, 16, 17, 42, 43, 44, 45, 46, 47, 48, 49, 30, 50, 51, 52, 53, 54, 55, 56, 18, 31, 32, 57, 58, 59, 60, 20, 28, 61, 62, 63, 64, 65, 66, 67, 68, 69, 27, 22, 21, 70, 71, 72, 73, 29, 19, 84, 85, 86, 87, 88, 89, 90, 91, 92, 93, 94, 95, 96, 97] (by decide +kernel) (by decide +kernel)
set_option maxRecDepth 20000 in
theorem gX4_settle_X3_ticksUntilRest : GoodIn wsX4_settle (wsV RX4 111 RX3 yX3_ticksUntilRest wsX3_ticksUntilRest) := goodIn_app (goodIn_of _ (by decide +kernel)) ggX4_settle_X3_ticksUntilRest
theorem dX4_settle_0 : decode cX4_settle 0 = .ok (.aload_n 0, 1) := by decide +kernel
theorem dX4_settle_1 : decode cX4_settle 1 = .ok (.getfield 36, 3) := by decide +kernel
theorem dX4_settle_4 : decode cX4_settle 4 = .ok (.aload_n 0, 1) := by decide +kernel
theorem dX4_settle_5 : decode cX4_settle 5 = .ok (.getfield 12, 3) := by decide +kernel
theorem dX4_settle_8 : decode cX4_settle 8 = .ok (.invokevirtual 56, 3) := by decide +kernel
theorem dX4_settle_11 : decode cX4_settle 11 = .ok (.aload_n 0, 1) := by decide +kernel
theorem dX4_settle_12 : decode cX4_settle 12 = .ok (.getfield 12, 3) := by decide +kernel
theorem dX4_settle_15 : decode cX4_settle 15 = .ok (.invokevirtual 111, 3) := by decide +kernel
theorem dX4_settle_18 : decode cX4_settle 18 = .ok (.ireturn, 1) := by decide +kernel
set_option maxRecDepth 20000 in
theorem ggX4_relay_X4_isRelay : GoodIn wsX4_relay wsX4_isRelay := goodIn_r _ [12, 13, 14, 11, 15] (by decide +kernel) (by decide +kernel)
set_option maxRecDepth 20000 in
theorem gX4_relay_X4_isRelay : GoodIn wsX4_relay (va_wsS RX4 48 yX4_isRelay wsX4_isRelay) := goodIn_app (goodIn_of _ (by decide +kernel)) ggX4_relay_X4_isRelay
set_option maxRecDepth 20000 in
theorem ggX4_relay_X4_bit : GoodIn wsX4_relay wsX4_bit := goodIn_r _ [18] (by decide +kernel) (by decide +kernel)
set_option maxRecDepth 20000 in
theorem gX4_relay_X4_bit : GoodIn wsX4_relay (va_wsS RX4 114 yX4_bit wsX4_bit) := goodIn_app (goodIn_of _ (by decide +kernel)) ggX4_relay_X4_bit
set_option maxRecDepth 20000 in
theorem ggX4_relay_X3_fedRelays : GoodIn wsX4_relay wsX3_fedRelays := goodIn_r _ [23, 24, 25, 26, 22, 27, 28, 29, 11, 30, 31, 32, 33, 34, 35, 36, 37, 38, 71, 72, 73, 74, 75, 76, 77, 78, 79, 80, 81, 82, 83, 84] (by decide +kernel) (by decide +kernel)
set_option maxRecDepth 20000 in
theorem gX4_relay_X3_fedRelays : GoodIn wsX4_relay (wsV RX4 118 RX3 yX3_fedRelays wsX3_fedRelays) := goodIn_app (goodIn_of _ (by decide +kernel)) ggX4_relay_X3_fedRelays
set_option maxRecDepth 20000 in
theorem ggX4_relay_X3_wantingRelays : GoodIn wsX4_relay wsX3_wantingRelays := goodIn_r _ [42, 35, 43, 44, 20, 21, 22, 23, 24, 25, 26, 27, 28, 29, 11, 30, 31, 32, 33, 34, 36, 37, 38, 71, 72, 73, 74, 75, 76, 77, 78, 79, 80, 81, 82, 83, 84] (by decide +kernel) (by decide +kernel)
set_option maxRecDepth 20000 in
theorem gX4_relay_X3_wantingRelays : GoodIn wsX4_relay (wsV RX4 92 RX3 yX3_wantingRelays wsX3_wantingRelays) := goodIn_app (goodIn_of _ (by decide +kernel)) ggX4_relay_X3_wantingRelays
set_option maxRecDepth 20000 in
theorem ggX4_relay_X3_frontsOfCircuit : GoodIn wsX4_relay wsX3_frontsOfCircuit := goodIn_r _ [48, 37, 49, 50, 51, 22, 52, 28, 29, 11, 30, 71, 72, 73, 74, 75, 76, 77, 78, 79, 80, 81, 82, 83, 84] (by decide +kernel) (by decide +kernel)
set_option maxRecDepth 20000 in
theorem gX4_relay_X3_frontsOfCircuit : GoodIn wsX4_relay (wsV RX4 127 RX3 yX3_frontsOfCircuit wsX3_frontsOfCircuit) := goodIn_app (goodIn_of _ (by decide +kernel)) ggX4_relay_X3_frontsOfCircuit
set_option maxRecDepth 20000 in
theorem ggX4_relay_X3_relaysWithContactOf : GoodIn wsX4_relay wsX3_relaysWithContactOf := goodIn_r _ [56, 57, 46, 47, 22, 48, 37, 49, 50, 51, 52, 28, 29, 11, 30, 58, 59, 60, 61, 38, 62, 63, 16, 17, 18, 71, 72, 73, 74, 75, 76, 77, 78, 79, 80, 81, 82, 83, 84] (by decide +kernel) (by decide +kernel)
set_option maxRecDepth 20000 in
theorem gX4_relay_X3_relaysWithContactOf : GoodIn wsX4_relay (wsV RX4 131 RX3 yX3_relaysWithContactOf wsX3_relaysWithContactOf) := goodIn_app (goodIn_of _ (by decide +kernel)) ggX4_relay_X3_relaysWithContactOf
theorem dX4_relay_0 : decode cX4_relay 0 = .ok (.iload_n 1, 1) := by decide +kernel
theorem dX4_relay_1 : decode cX4_relay 1 = .ok (.invokestatic 48, 3) := by decide +kernel
theorem dX4_relay_4 : decode cX4_relay 4 = .ok (.ifCond .ne 5, 3) := by decide +kernel
theorem dX4_relay_7 : decode cX4_relay 7 = .ok (.iconst (-1), 1) := by decide +kernel
theorem dX4_relay_8 : decode cX4_relay 8 = .ok (.ireturn, 1) := by decide +kernel
theorem dX4_relay_9 : decode cX4_relay 9 = .ok (.iload_n 2, 1) := by decide +kernel
theorem dX4_relay_10 : decode cX4_relay 10 = .ok (.tableswitch 178 0 10 #[58, 70, 82, 94, 106, 116, 126, 136, 146, 156, 169], 58) := by decide +kernel
theorem dX4_relay_68 : decode cX4_relay 68 = .ok (.aload_n 0, 1) := by decide +kernel
theorem dX4_relay_69 : decode cX4_relay 69 = .ok (.getfield 12, 3) := by decide +kernel
theorem dX4_relay_72 : decode cX4_relay 72 = .ok (.getfield 95, 3) := by decide +kernel
theorem dX4_relay_75 : decode cX4_relay 75 = .ok (.iload_n 1, 1) := by decide +kernel
theorem dX4_relay_76 : decode cX4_relay 76 = .ok (.invokestatic 114, 3) := by decide +kernel
theorem dX4_relay_79 : decode cX4_relay 79 = .ok (.ireturn, 1) := by decide +kernel
theorem dX4_relay_80 : decode cX4_relay 80 = .ok (.aload_n 0, 1) := by decide +kernel
theorem dX4_relay_81 : decode cX4_relay 81 = .ok (.getfield 12, 3) := by decide +kernel
theorem dX4_relay_84 : decode cX4_relay 84 = .ok (.invokevirtual 118, 3) := by decide +kernel
theorem dX4_relay_87 : decode cX4_relay 87 = .ok (.iload_n 1, 1) := by decide +kernel
theorem dX4_relay_88 : decode cX4_relay 88 = .ok (.invokestatic 114, 3) := by decide +kernel
theorem dX4_relay_91 : decode cX4_relay 91 = .ok (.ireturn, 1) := by decide +kernel
theorem dX4_relay_92 : decode cX4_relay 92 = .ok (.aload_n 0, 1) := by decide +kernel
theorem dX4_relay_93 : decode cX4_relay 93 = .ok (.getfield 12, 3) := by decide +kernel
theorem dX4_relay_96 : decode cX4_relay 96 = .ok (.getfield 98, 3) := by decide +kernel
theorem dX4_relay_99 : decode cX4_relay 99 = .ok (.iload_n 1, 1) := by decide +kernel
theorem dX4_relay_100 : decode cX4_relay 100 = .ok (.invokestatic 114, 3) := by decide +kernel
theorem dX4_relay_103 : decode cX4_relay 103 = .ok (.ireturn, 1) := by decide +kernel
theorem dX4_relay_104 : decode cX4_relay 104 = .ok (.aload_n 0, 1) := by decide +kernel
theorem dX4_relay_105 : decode cX4_relay 105 = .ok (.getfield 12, 3) := by decide +kernel
theorem dX4_relay_108 : decode cX4_relay 108 = .ok (.invokevirtual 92, 3) := by decide +kernel
theorem dX4_relay_111 : decode cX4_relay 111 = .ok (.iload_n 1, 1) := by decide +kernel
theorem dX4_relay_112 : decode cX4_relay 112 = .ok (.invokestatic 114, 3) := by decide +kernel
theorem dX4_relay_115 : decode cX4_relay 115 = .ok (.ireturn, 1) := by decide +kernel
theorem dX4_relay_116 : decode cX4_relay 116 = .ok (.aload_n 0, 1) := by decide +kernel
theorem dX4_relay_117 : decode cX4_relay 117 = .ok (.getfield 12, 3) := by decide +kernel
theorem dX4_relay_120 : decode cX4_relay 120 = .ok (.getfield 121, 3) := by decide +kernel
theorem dX4_relay_123 : decode cX4_relay 123 = .ok (.iload_n 1, 1) := by decide +kernel
theorem dX4_relay_124 : decode cX4_relay 124 = .ok (.iaload, 1) := by decide +kernel
theorem dX4_relay_125 : decode cX4_relay 125 = .ok (.ireturn, 1) := by decide +kernel
theorem dX4_relay_126 : decode cX4_relay 126 = .ok (.aload_n 0, 1) := by decide +kernel
theorem dX4_relay_127 : decode cX4_relay 127 = .ok (.getfield 12, 3) := by decide +kernel
theorem dX4_relay_130 : decode cX4_relay 130 = .ok (.getfield 101, 3) := by decide +kernel
theorem dX4_relay_133 : decode cX4_relay 133 = .ok (.iload_n 1, 1) := by decide +kernel
theorem dX4_relay_134 : decode cX4_relay 134 = .ok (.iaload, 1) := by decide +kernel
theorem dX4_relay_135 : decode cX4_relay 135 = .ok (.ireturn, 1) := by decide +kernel
theorem dX4_relay_136 : decode cX4_relay 136 = .ok (.aload_n 0, 1) := by decide +kernel
theorem dX4_relay_137 : decode cX4_relay 137 = .ok (.getfield 12, 3) := by decide +kernel
theorem dX4_relay_140 : decode cX4_relay 140 = .ok (.getfield 64, 3) := by decide +kernel
theorem dX4_relay_143 : decode cX4_relay 143 = .ok (.iload_n 1, 1) := by decide +kernel
theorem dX4_relay_144 : decode cX4_relay 144 = .ok (.iaload, 1) := by decide +kernel
theorem dX4_relay_145 : decode cX4_relay 145 = .ok (.ireturn, 1) := by decide +kernel
theorem dX4_relay_146 : decode cX4_relay 146 = .ok (.aload_n 0, 1) := by decide +kernel
theorem dX4_relay_147 : decode cX4_relay 147 = .ok (.getfield 12, 3) := by decide +kernel
theorem dX4_relay_150 : decode cX4_relay 150 = .ok (.getfield 60, 3) := by decide +kernel
theorem dX4_relay_153 : decode cX4_relay 153 = .ok (.iload_n 1, 1) := by decide +kernel
theorem dX4_relay_154 : decode cX4_relay 154 = .ok (.iaload, 1) := by decide +kernel
theorem dX4_relay_155 : decode cX4_relay 155 = .ok (.ireturn, 1) := by decide +kernel
theorem dX4_relay_156 : decode cX4_relay 156 = .ok (.aload_n 0, 1) := by decide +kernel
theorem dX4_relay_157 : decode cX4_relay 157 = .ok (.getfield 12, 3) := by decide +kernel
theorem dX4_relay_160 : decode cX4_relay 160 = .ok (.getfield 124, 3) := by decide +kernel
theorem dX4_relay_163 : decode cX4_relay 163 = .ok (.iload_n 1, 1) := by decide +kernel
theorem dX4_relay_164 : decode cX4_relay 164 = .ok (.iaload, 1) := by decide +kernel
theorem dX4_relay_165 : decode cX4_relay 165 = .ok (.ireturn, 1) := by decide +kernel
theorem dX4_relay_166 : decode cX4_relay 166 = .ok (.aload_n 0, 1) := by decide +kernel
theorem dX4_relay_167 : decode cX4_relay 167 = .ok (.getfield 12, 3) := by decide +kernel
theorem dX4_relay_170 : decode cX4_relay 170 = .ok (.iload_n 1, 1) := by decide +kernel
theorem dX4_relay_171 : decode cX4_relay 171 = .ok (.invokevirtual 127, 3) := by decide +kernel
theorem dX4_relay_174 : decode cX4_relay 174 = .ok (.iload_n 1, 1) := by decide +kernel
theorem dX4_relay_175 : decode cX4_relay 175 = .ok (.invokestatic 114, 3) := by decide +kernel
theorem dX4_relay_178 : decode cX4_relay 178 = .ok (.ireturn, 1) := by decide +kernel
theorem dX4_relay_179 : decode cX4_relay 179 = .ok (.aload_n 0, 1) := by decide +kernel
theorem dX4_relay_180 : decode cX4_relay 180 = .ok (.getfield 12, 3) := by decide +kernel
theorem dX4_relay_183 : decode cX4_relay 183 = .ok (.iload_n 1, 1) := by decide +kernel
theorem dX4_relay_184 : decode cX4_relay 184 = .ok (.invokevirtual 131, 3) := by decide +kernel
theorem dX4_relay_187 : decode cX4_relay 187 = .ok (.ireturn, 1) := by decide +kernel
theorem dX4_relay_188 : decode cX4_relay 188 = .ok (.bipush (-2), 2) := by decide +kernel
theorem dX4_relay_190 : decode cX4_relay 190 = .ok (.ireturn, 1) := by decide +kernel
set_option maxRecDepth 20000 in
theorem ggX4_branch_X4_isRelay : GoodIn wsX4_branch wsX4_isRelay := goodIn_r _ [9, 10, 11, 8, 12] (by decide +kernel) (by decide +kernel)
set_option maxRecDepth 20000 in
theorem gX4_branch_X4_isRelay : GoodIn wsX4_branch (va_wsS RX4 48 yX4_isRelay wsX4_isRelay) := goodIn_app (goodIn_of _ (by decide +kernel)) ggX4_branch_X4_isRelay
set_option maxRecDepth 20000 in
theorem ggX4_branch_X4_isWithin : GoodIn wsX4_branch wsX4_isWithin := goodIn_r _ [12] (by decide +kernel) (by decide +kernel)
set_option maxRecDepth 20000 in
theorem gX4_branch_X4_isWithin : GoodIn wsX4_branch (va_wsS RX4 52 yX4_isWithin wsX4_isWithin) := goodIn_app (goodIn_of _ (by decide +kernel)) ggX4_branch_X4_isWithin
set_option maxRecDepth 20000 in
theorem ggX4_branch_X4_placeOf : GoodIn wsX4_branch wsX4_placeOf := goodIn_r _ [15] (by decide +kernel) (by decide +kernel)
set_option maxRecDepth 20000 in
theorem gX4_branch_X4_placeOf : GoodIn wsX4_branch (va_wsS RX4 134 yX4_placeOf wsX4_placeOf) := goodIn_app (goodIn_of _ (by decide +kernel)) ggX4_branch_X4_placeOf
set_option maxRecDepth 20000 in
theorem ggX4_branch_X3_isClosed : GoodIn wsX4_branch wsX3_isClosed := goodIn_r _ [20, 21, 22, 23, 24, 32, 33, 34, 35, 36, 37, 38, 39, 40, 41, 42, 43, 44, 45] (by decide +kernel) (by decide +kernel)
set_option maxRecDepth 20000 in
theorem gX4_branch_X3_isClosed : GoodIn wsX4_branch (wsV RX4 137 RX3 yX3_isClosed wsX3_isClosed) := goodIn_app (goodIn_of _ (by decide +kernel)) ggX4_branch_X3_isClosed
theorem dX4_branch_0 : decode cX4_branch 0 = .ok (.iload_n 1, 1) := by decide +kernel
theorem dX4_branch_1 : decode cX4_branch 1 = .ok (.invokestatic 48, 3) := by decide +kernel
theorem dX4_branch_4 : decode cX4_branch 4 = .ok (.ifCond .eq 22, 3) := by decide +kernel
theorem dX4_branch_7 : decode cX4_branch 7 = .ok (.iload_n 2, 1) := by decide +kernel
theorem dX4_branch_8 : decode cX4_branch 8 = .ok (.iconst 0, 1) := by decide +kernel
theorem dX4_branch_9 : decode cX4_branch 9 = .ok (.aload_n 0, 1) := by decide +kernel
theorem dX4_branch_10 : decode cX4_branch 10 = .ok (.getfield 12, 3) := by decide +kernel
theorem dX4_branch_13 : decode cX4_branch 13 = .ok (.getfield 124, 3) := by decide +kernel
theorem dX4_branch_16 : decode cX4_branch 16 = .ok (.iload_n 1, 1) := by decide +kernel
theorem dX4_branch_17 : decode cX4_branch 17 = .ok (.iaload, 1) := by decide +kernel
theorem dX4_branch_18 : decode cX4_branch 18 = .ok (.iconst 1, 1) := by decide +kernel
theorem dX4_branch_19 : decode cX4_branch 19 = .ok (.isub, 1) := by decide +kernel
theorem dX4_branch_20 : decode cX4_branch 20 = .ok (.invokestatic 52, 3) := by decide +kernel
theorem dX4_branch_23 : decode cX4_branch 23 = .ok (.ifCond .ne 5, 3) := by decide +kernel
theorem dX4_branch_26 : decode cX4_branch 26 = .ok (.iconst (-1), 1) := by decide +kernel
theorem dX4_branch_27 : decode cX4_branch 27 = .ok (.ireturn, 1) := by decide +kernel
theorem dX4_branch_28 : decode cX4_branch 28 = .ok (.iload_n 1, 1) := by decide +kernel
theorem dX4_branch_29 : decode cX4_branch 29 = .ok (.iload_n 2, 1) := by decide +kernel
theorem dX4_branch_30 : decode cX4_branch 30 = .ok (.invokestatic 134, 3) := by decide +kernel
theorem dX4_branch_33 : decode cX4_branch 33 = .ok (.istore 4, 2) := by decide +kernel
theorem dX4_branch_35 : decode cX4_branch 35 = .ok (.iload_n 3, 1) := by decide +kernel
theorem dX4_branch_36 : decode cX4_branch 36 = .ok (.tableswitch 133 0 5 #[40, 58, 69, 84, 99, 116], 40) := by decide +kernel
theorem dX4_branch_76 : decode cX4_branch 76 = .ok (.aload_n 0, 1) := by decide +kernel
theorem dX4_branch_77 : decode cX4_branch 77 = .ok (.getfield 12, 3) := by decide +kernel
theorem dX4_branch_80 : decode cX4_branch 80 = .ok (.iload 4, 2) := by decide +kernel
theorem dX4_branch_82 : decode cX4_branch 82 = .ok (.invokevirtual 137, 3) := by decide +kernel
theorem dX4_branch_85 : decode cX4_branch 85 = .ok (.ifCond .eq 7, 3) := by decide +kernel
theorem dX4_branch_88 : decode cX4_branch 88 = .ok (.iconst 1, 1) := by decide +kernel
theorem dX4_branch_89 : decode cX4_branch 89 = .ok (.goto 4, 3) := by decide +kernel
theorem dX4_branch_92 : decode cX4_branch 92 = .ok (.iconst 0, 1) := by decide +kernel
theorem dX4_branch_93 : decode cX4_branch 93 = .ok (.ireturn, 1) := by decide +kernel
theorem dX4_branch_94 : decode cX4_branch 94 = .ok (.aload_n 0, 1) := by decide +kernel
theorem dX4_branch_95 : decode cX4_branch 95 = .ok (.getfield 12, 3) := by decide +kernel
theorem dX4_branch_98 : decode cX4_branch 98 = .ok (.getfield 140, 3) := by decide +kernel
theorem dX4_branch_101 : decode cX4_branch 101 = .ok (.iload 4, 2) := by decide +kernel
theorem dX4_branch_103 : decode cX4_branch 103 = .ok (.iaload, 1) := by decide +kernel
theorem dX4_branch_104 : decode cX4_branch 104 = .ok (.ireturn, 1) := by decide +kernel
theorem dX4_branch_105 : decode cX4_branch 105 = .ok (.aload_n 0, 1) := by decide +kernel
theorem dX4_branch_106 : decode cX4_branch 106 = .ok (.getfield 12, 3) := by decide +kernel
theorem dX4_branch_109 : decode cX4_branch 109 = .ok (.getfield 143, 3) := by decide +kernel
theorem dX4_branch_112 : decode cX4_branch 112 = .ok (.iload 4, 2) := by decide +kernel
theorem dX4_branch_114 : decode cX4_branch 114 = .ok (.iaload, 1) := by decide +kernel
theorem dX4_branch_115 : decode cX4_branch 115 = .ok (.sipush 1023, 3) := by decide +kernel
theorem dX4_branch_118 : decode cX4_branch 118 = .ok (.iand, 1) := by decide +kernel
theorem dX4_branch_119 : decode cX4_branch 119 = .ok (.ireturn, 1) := by decide +kernel
theorem dX4_branch_120 : decode cX4_branch 120 = .ok (.aload_n 0, 1) := by decide +kernel
theorem dX4_branch_121 : decode cX4_branch 121 = .ok (.getfield 12, 3) := by decide +kernel
theorem dX4_branch_124 : decode cX4_branch 124 = .ok (.getfield 146, 3) := by decide +kernel
theorem dX4_branch_127 : decode cX4_branch 127 = .ok (.iload 4, 2) := by decide +kernel
theorem dX4_branch_129 : decode cX4_branch 129 = .ok (.iaload, 1) := by decide +kernel
theorem dX4_branch_130 : decode cX4_branch 130 = .ok (.sipush 1023, 3) := by decide +kernel
theorem dX4_branch_133 : decode cX4_branch 133 = .ok (.iand, 1) := by decide +kernel
theorem dX4_branch_134 : decode cX4_branch 134 = .ok (.ireturn, 1) := by decide +kernel
theorem dX4_branch_135 : decode cX4_branch 135 = .ok (.aload_n 0, 1) := by decide +kernel
theorem dX4_branch_136 : decode cX4_branch 136 = .ok (.getfield 12, 3) := by decide +kernel
theorem dX4_branch_139 : decode cX4_branch 139 = .ok (.getfield 143, 3) := by decide +kernel
theorem dX4_branch_142 : decode cX4_branch 142 = .ok (.iload 4, 2) := by decide +kernel
theorem dX4_branch_144 : decode cX4_branch 144 = .ok (.iaload, 1) := by decide +kernel
theorem dX4_branch_145 : decode cX4_branch 145 = .ok (.bipush 10, 2) := by decide +kernel
theorem dX4_branch_147 : decode cX4_branch 147 = .ok (.ishr, 1) := by decide +kernel
theorem dX4_branch_148 : decode cX4_branch 148 = .ok (.bipush 63, 2) := by decide +kernel
theorem dX4_branch_150 : decode cX4_branch 150 = .ok (.iand, 1) := by decide +kernel
theorem dX4_branch_151 : decode cX4_branch 151 = .ok (.ireturn, 1) := by decide +kernel
theorem dX4_branch_152 : decode cX4_branch 152 = .ok (.aload_n 0, 1) := by decide +kernel
theorem dX4_branch_153 : decode cX4_branch 153 = .ok (.getfield 12, 3) := by decide +kernel
theorem dX4_branch_156 : decode cX4_branch 156 = .ok (.getfield 146, 3) := by decide +kernel
theorem dX4_branch_159 : decode cX4_branch 159 = .ok (.iload 4, 2) := by decide +kernel
theorem dX4_branch_161 : decode cX4_branch 161 = .ok (.iaload, 1) := by decide +kernel
theorem dX4_branch_162 : decode cX4_branch 162 = .ok (.bipush 10, 2) := by decide +kernel
theorem dX4_branch_164 : decode cX4_branch 164 = .ok (.ishr, 1) := by decide +kernel
theorem dX4_branch_165 : decode cX4_branch 165 = .ok (.bipush 63, 2) := by decide +kernel
theorem dX4_branch_167 : decode cX4_branch 167 = .ok (.iand, 1) := by decide +kernel
theorem dX4_branch_168 : decode cX4_branch 168 = .ok (.ireturn, 1) := by decide +kernel
theorem dX4_branch_169 : decode cX4_branch 169 = .ok (.bipush (-2), 2) := by decide +kernel
theorem dX4_branch_171 : decode cX4_branch 171 = .ok (.ireturn, 1) := by decide +kernel
set_option maxRecDepth 20000 in
theorem ggX4_count_X3_fedRelays : GoodIn wsX4_count wsX3_fedRelays := goodIn_r _ [16, 17, 18, 19, 15, 20, 21, 22, 23, 24, 25, 26, 27, 28, 29, 30, 31, 32, 54, 55, 56, 57, 58, 59, 60, 61, 62, 63, 64, 65, 66, 67] (by decide +kernel) (by decide +kernel)
set_option maxRecDepth 20000 in
theorem gX4_count_X3_fedRelays : GoodIn wsX4_count (wsV RX4 118 RX3 yX3_fedRelays wsX3_fedRelays) := goodIn_app (goodIn_of _ (by decide +kernel)) ggX4_count_X3_fedRelays
set_option maxRecDepth 20000 in
theorem ggX4_count_X3_wantingRelays : GoodIn wsX4_count wsX3_wantingRelays := goodIn_r _ [36, 29, 37, 38, 13, 14, 15, 16, 17, 18, 19, 20, 21, 22, 23, 24, 25, 26, 27, 28, 30, 31, 32, 54, 55, 56, 57, 58, 59, 60, 61, 62, 63, 64, 65, 66, 67] (by decide +kernel) (by decide +kernel)
set_option maxRecDepth 20000 in
theorem gX4_count_X3_wantingRelays : GoodIn wsX4_count (wsV RX4 92 RX3 yX3_wantingRelays wsX3_wantingRelays) := goodIn_app (goodIn_of _ (by decide +kernel)) ggX4_count_X3_wantingRelays
set_option maxRecDepth 20000 in
theorem ggX4_count_X3_relaysWithBranches : GoodIn wsX4_count wsX3_relaysWithBranches := goodIn_r _ [42, 21, 54, 55, 56, 57, 58, 59, 60, 61, 62, 63, 64, 65, 66, 67] (by decide +kernel) (by decide +kernel)
set_option maxRecDepth 20000 in
theorem gX4_count_X3_relaysWithBranches : GoodIn wsX4_count (wsV RX4 81 RX3 yX3_relaysWithBranches wsX3_relaysWithBranches) := goodIn_app (goodIn_of _ (by decide +kernel)) ggX4_count_X3_relaysWithBranches
set_option maxRecDepth 20000 in
theorem ggX4_count_X3_neverClosedBranches : GoodIn wsX4_count wsX3_neverClosedBranches := goodIn_r _ [46, 21, 31, 32, 22, 23, 24, 54, 55, 56, 57, 58, 59, 60, 61, 62, 63, 64, 65, 66, 67] (by decide +kernel) (by decide +kernel)
set_option maxRecDepth 20000 in
theorem gX4_count_X3_neverClosedBranches : GoodIn wsX4_count (wsV RX4 152 RX3 yX3_neverClosedBranches wsX3_neverClosedBranches) := goodIn_app (goodIn_of _ (by decide +kernel)) ggX4_count_X3_neverClosedBranches
theorem dX4_count_0 : decode cX4_count 0 = .ok (.iload_n 1, 1) := by decide +kernel
theorem dX4_count_1 : decode cX4_count 1 = .ok (.tableswitch 159 0 11 #[63, 71, 79, 87, 95, 103, 111, 119, 127, 135, 143, 151], 63) := by decide +kernel
theorem dX4_count_64 : decode cX4_count 64 = .ok (.aload_n 0, 1) := by decide +kernel
theorem dX4_count_65 : decode cX4_count 65 = .ok (.getfield 12, 3) := by decide +kernel
theorem dX4_count_68 : decode cX4_count 68 = .ok (.getfield 95, 3) := by decide +kernel
theorem dX4_count_71 : decode cX4_count 71 = .ok (.ireturn, 1) := by decide +kernel
theorem dX4_count_72 : decode cX4_count 72 = .ok (.aload_n 0, 1) := by decide +kernel
theorem dX4_count_73 : decode cX4_count 73 = .ok (.getfield 12, 3) := by decide +kernel
theorem dX4_count_76 : decode cX4_count 76 = .ok (.invokevirtual 118, 3) := by decide +kernel
theorem dX4_count_79 : decode cX4_count 79 = .ok (.ireturn, 1) := by decide +kernel
theorem dX4_count_80 : decode cX4_count 80 = .ok (.aload_n 0, 1) := by decide +kernel
theorem dX4_count_81 : decode cX4_count 81 = .ok (.getfield 12, 3) := by decide +kernel
theorem dX4_count_84 : decode cX4_count 84 = .ok (.getfield 98, 3) := by decide +kernel
theorem dX4_count_87 : decode cX4_count 87 = .ok (.ireturn, 1) := by decide +kernel
theorem dX4_count_88 : decode cX4_count 88 = .ok (.aload_n 0, 1) := by decide +kernel
theorem dX4_count_89 : decode cX4_count 89 = .ok (.getfield 12, 3) := by decide +kernel
theorem dX4_count_92 : decode cX4_count 92 = .ok (.invokevirtual 92, 3) := by decide +kernel
theorem dX4_count_95 : decode cX4_count 95 = .ok (.ireturn, 1) := by decide +kernel
theorem dX4_count_96 : decode cX4_count 96 = .ok (.aload_n 0, 1) := by decide +kernel
theorem dX4_count_97 : decode cX4_count 97 = .ok (.getfield 12, 3) := by decide +kernel
theorem dX4_count_100 : decode cX4_count 100 = .ok (.getfield 85, 3) := by decide +kernel
theorem dX4_count_103 : decode cX4_count 103 = .ok (.ireturn, 1) := by decide +kernel
theorem dX4_count_104 : decode cX4_count 104 = .ok (.aload_n 0, 1) := by decide +kernel
theorem dX4_count_105 : decode cX4_count 105 = .ok (.getfield 12, 3) := by decide +kernel
theorem dX4_count_108 : decode cX4_count 108 = .ok (.getfield 149, 3) := by decide +kernel
theorem dX4_count_111 : decode cX4_count 111 = .ok (.ireturn, 1) := by decide +kernel
theorem dX4_count_112 : decode cX4_count 112 = .ok (.aload_n 0, 1) := by decide +kernel
theorem dX4_count_113 : decode cX4_count 113 = .ok (.getfield 12, 3) := by decide +kernel
theorem dX4_count_116 : decode cX4_count 116 = .ok (.getfield 104, 3) := by decide +kernel
theorem dX4_count_119 : decode cX4_count 119 = .ok (.ireturn, 1) := by decide +kernel
theorem dX4_count_120 : decode cX4_count 120 = .ok (.aload_n 0, 1) := by decide +kernel
theorem dX4_count_121 : decode cX4_count 121 = .ok (.getfield 12, 3) := by decide +kernel
theorem dX4_count_124 : decode cX4_count 124 = .ok (.getfield 67, 3) := by decide +kernel
theorem dX4_count_127 : decode cX4_count 127 = .ok (.ireturn, 1) := by decide +kernel
theorem dX4_count_128 : decode cX4_count 128 = .ok (.aload_n 0, 1) := by decide +kernel
theorem dX4_count_129 : decode cX4_count 129 = .ok (.getfield 12, 3) := by decide +kernel
theorem dX4_count_132 : decode cX4_count 132 = .ok (.invokevirtual 81, 3) := by decide +kernel
theorem dX4_count_135 : decode cX4_count 135 = .ok (.ireturn, 1) := by decide +kernel
theorem dX4_count_136 : decode cX4_count 136 = .ok (.aload_n 0, 1) := by decide +kernel
theorem dX4_count_137 : decode cX4_count 137 = .ok (.getfield 12, 3) := by decide +kernel
theorem dX4_count_140 : decode cX4_count 140 = .ok (.invokevirtual 152, 3) := by decide +kernel
theorem dX4_count_143 : decode cX4_count 143 = .ok (.ireturn, 1) := by decide +kernel
theorem dX4_count_144 : decode cX4_count 144 = .ok (.aload_n 0, 1) := by decide +kernel
theorem dX4_count_145 : decode cX4_count 145 = .ok (.getfield 22, 3) := by decide +kernel
theorem dX4_count_148 : decode cX4_count 148 = .ok (.getfield 155, 3) := by decide +kernel
theorem dX4_count_151 : decode cX4_count 151 = .ok (.ireturn, 1) := by decide +kernel
theorem dX4_count_152 : decode cX4_count 152 = .ok (.aload_n 0, 1) := by decide +kernel
theorem dX4_count_153 : decode cX4_count 153 = .ok (.getfield 36, 3) := by decide +kernel
theorem dX4_count_156 : decode cX4_count 156 = .ok (.getfield 158, 3) := by decide +kernel
theorem dX4_count_159 : decode cX4_count 159 = .ok (.ireturn, 1) := by decide +kernel
theorem dX4_count_160 : decode cX4_count 160 = .ok (.bipush (-2), 2) := by decide +kernel
theorem dX4_count_162 : decode cX4_count 162 = .ok (.ireturn, 1) := by decide +kernel
set_option maxRecDepth 20000 in
theorem ggX4_ifPressed_X4_isButtonSet : GoodIn wsX4_ifPressed wsX4_isButtonSet := goodIn_r _ [6, 7, 8, 5, 9] (by decide +kernel) (by decide +kernel)
set_option maxRecDepth 20000 in
theorem gX4_ifPressed_X4_isButtonSet : GoodIn wsX4_ifPressed (va_wsS RX4 161 yX4_isButtonSet wsX4_isButtonSet) := goodIn_app (goodIn_of _ (by decide +kernel)) ggX4_ifPressed_X4_isButtonSet
set_option maxRecDepth 20000 in
theorem ggX4_ifPressed_X4_isWithin : GoodIn wsX4_ifPressed wsX4_isWithin := goodIn_r _ [9] (by decide +kernel) (by decide +kernel)
set_option maxRecDepth 20000 in
theorem gX4_ifPressed_X4_isWithin : GoodIn wsX4_ifPressed (va_wsS RX4 52 yX4_isWithin wsX4_isWithin) := goodIn_app (goodIn_of _ (by decide +kernel)) ggX4_ifPressed_X4_isWithin
set_option maxRecDepth 20000 in
theorem ggX4_ifPressed_X4_tryButtons : GoodIn wsX4_ifPressed wsX4_tryButtons := goodIn_r _ [13, 1, 14, 15, 16, 17, 18, 19, 20, 21, 22, 23, 24, 25, 26, 27, 28, 29, 30, 31, 32, 33, 34, 35, 36, 37, 38, 78, 79, 80, 81, 82, 83, 84, 85, 86, 87, 88, 89, 90, 91, 92, 93, 94, 95, 96, 97, 98] (by decide +kernel) (by decide +kernel)
set_option maxRecDepth 20000 in
theorem gX4_ifPressed_X4_tryButtons : GoodIn wsX4_ifPressed (wsV RX4 164 RX4 yX4_tryButtons wsX4_tryButtons) := goodIn_app (goodIn_of _ (by decide +kernel)) ggX4_ifPressed_X4_tryButtons
set_option maxRecDepth 20000 in
theorem ggX4_ifPressed_X3_passTicks : GoodIn wsX4_ifPressed wsX3_passTicks := goodIn_r _ [42, 43, 44, 45, 19, 46, 21, 22, 47, 48, 49, 50, 51, 52, 53, 54, 35, 55, 5, 56, 57, 58, 59, 60, 23, 36, 37, 61, 62, 63, 64, 25, 33, 65, 66, 67, 68, 69, 70, 71, 72, 73, 32, 27, 26, 74, 75, 76, 77, 34, 24, 85, 86, 87, 88, 89, 90, 91, 92, 93, 94, 95, 96, 97, 98] (by decide +kernel) (by decide +kernel)
set_option maxRecDepth 20000 in
theorem gX4_ifPressed_X3_passTicks : GoodIn wsX4_ifPressed (wsV RX4 107 RX3 yX3_passTicks wsX3_passTicks) := goodIn_app (goodIn_of _ (by decide +kernel)) ggX4_ifPressed_X3_passTicks
theorem dX4_ifPressed_0 : decode cX4_ifPressed 0 = .ok (.iload_n 1, 1) := by decide +kernel
theorem dX4_ifPressed_1 : decode cX4_ifPressed 1 = .ok (.invokestatic 161, 3) := by decide +kernel
theorem dX4_ifPressed_4 : decode cX4_ifPressed 4 = .ok (.ifCond .eq 14, 3) := by decide +kernel
theorem dX4_ifPressed_7 : decode cX4_ifPressed 7 = .ok (.iload_n 2, 1) := by decide +kernel
theorem dX4_ifPressed_8 : decode cX4_ifPressed 8 = .ok (.iconst 0, 1) := by decide +kernel
theorem dX4_ifPressed_9 : decode cX4_ifPressed 9 = .ok (.sipush 200, 3) := by decide +kernel
theorem dX4_ifPressed_12 : decode cX4_ifPressed 12 = .ok (.invokestatic 52, 3) := by decide +kernel
theorem dX4_ifPressed_15 : decode cX4_ifPressed 15 = .ok (.ifCond .ne 6, 3) := by decide +kernel
theorem dX4_ifPressed_18 : decode cX4_ifPressed 18 = .ok (.bipush (-2), 2) := by decide +kernel
theorem dX4_ifPressed_20 : decode cX4_ifPressed 20 = .ok (.ireturn, 1) := by decide +kernel
theorem dX4_ifPressed_21 : decode cX4_ifPressed 21 = .ok (.aload_n 0, 1) := by decide +kernel
theorem dX4_ifPressed_22 : decode cX4_ifPressed 22 = .ok (.iload_n 1, 1) := by decide +kernel
theorem dX4_ifPressed_23 : decode cX4_ifPressed 23 = .ok (.invokevirtual 164, 3) := by decide +kernel
theorem dX4_ifPressed_26 : decode cX4_ifPressed 26 = .ok (.aload_n 0, 1) := by decide +kernel
theorem dX4_ifPressed_27 : decode cX4_ifPressed 27 = .ok (.getfield 16, 3) := by decide +kernel
theorem dX4_ifPressed_30 : decode cX4_ifPressed 30 = .ok (.iload_n 2, 1) := by decide +kernel
theorem dX4_ifPressed_31 : decode cX4_ifPressed 31 = .ok (.invokevirtual 107, 3) := by decide +kernel
theorem dX4_ifPressed_34 : decode cX4_ifPressed 34 = .ok (.aload_n 0, 1) := by decide +kernel
theorem dX4_ifPressed_35 : decode cX4_ifPressed 35 = .ok (.getfield 16, 3) := by decide +kernel
theorem dX4_ifPressed_38 : decode cX4_ifPressed 38 = .ok (.getfield 95, 3) := by decide +kernel
theorem dX4_ifPressed_41 : decode cX4_ifPressed 41 = .ok (.ireturn, 1) := by decide +kernel
set_option maxRecDepth 20000 in
theorem ggX4_rest_X4_isButtonSet : GoodIn wsX4_rest wsX4_isButtonSet := goodIn_r _ [8, 9, 10, 7, 11] (by decide +kernel) (by decide +kernel)
set_option maxRecDepth 20000 in
theorem gX4_rest_X4_isButtonSet : GoodIn wsX4_rest (va_wsS RX4 161 yX4_isButtonSet wsX4_isButtonSet) := goodIn_app (goodIn_of _ (by decide +kernel)) ggX4_rest_X4_isButtonSet
set_option maxRecDepth 20000 in
theorem ggX4_rest_X4_isWithin : GoodIn wsX4_rest wsX4_isWithin := goodIn_r _ [11] (by decide +kernel) (by decide +kernel)
set_option maxRecDepth 20000 in
theorem gX4_rest_X4_isWithin : GoodIn wsX4_rest (va_wsS RX4 52 yX4_isWithin wsX4_isWithin) := goodIn_app (goodIn_of _ (by decide +kernel)) ggX4_rest_X4_isWithin
set_option maxRecDepth 20000 in
theorem ggX4_rest_X4_tryButtons : GoodIn wsX4_rest wsX4_tryButtons := goodIn_r _ [15, 1, 3, 16, 17, 18, 19, 20, 21, 22, 23, 24, 25, 26, 27, 28, 29, 30, 31, 32, 33, 34, 35, 36, 37, 38, 39, 83, 84, 85, 86, 87, 88, 89, 90, 91, 92, 93, 94, 95, 96, 97, 98, 99, 100, 101, 102, 103] (by decide +kernel) (by decide +kernel)
set_option maxRecDepth 20000 in
theorem gX4_rest_X4_tryButtons : GoodIn wsX4_rest (wsV RX4 164 RX4 yX4_tryButtons wsX4_tryButtons) := goodIn_app (goodIn_of _ (by decide +kernel)) ggX4_rest_X4_tryButtons
set_option maxRecDepth 20000 in
theorem ggX4_rest_X3_upAtRest : GoodIn wsX4_rest wsX3_upAtRest := goodIn_r _ [43, 22, 44, 45, 46, 20, 47, 48, 49, 50, 51, 23, 52, 53, 54, 55, 56, 57, 58, 59, 36, 60, 7, 61, 62, 63, 64, 65, 24, 37, 38, 66, 67, 68, 69, 26, 34, 70, 71, 72, 73, 74, 75, 76, 77, 78, 33, 28, 27, 79, 80, 81, 82, 35, 25, 90, 91, 92, 93, 94, 95, 96, 97, 98, 99, 100, 101, 102, 103] (by decide +kernel) (by decide +kernel)
set_option maxRecDepth 20000 in
theorem gX4_rest_X3_upAtRest : GoodIn wsX4_rest (wsV RX4 167 RX3 yX3_upAtRest wsX3_upAtRest) := goodIn_app (goodIn_of _ (by decide +kernel)) ggX4_rest_X3_upAtRest
theorem dX4_rest_0 : decode cX4_rest 0 = .ok (.iload_n 1, 1) := by decide +kernel
theorem dX4_rest_1 : decode cX4_rest 1 = .ok (.invokestatic 161, 3) := by decide +kernel
theorem dX4_rest_4 : decode cX4_rest 4 = .ok (.ifCond .eq 12, 3) := by decide +kernel
theorem dX4_rest_7 : decode cX4_rest 7 = .ok (.iload_n 2, 1) := by decide +kernel
theorem dX4_rest_8 : decode cX4_rest 8 = .ok (.iconst 0, 1) := by decide +kernel
theorem dX4_rest_9 : decode cX4_rest 9 = .ok (.iconst 2, 1) := by decide +kernel
theorem dX4_rest_10 : decode cX4_rest 10 = .ok (.invokestatic 52, 3) := by decide +kernel
theorem dX4_rest_13 : decode cX4_rest 13 = .ok (.ifCond .ne 6, 3) := by decide +kernel
theorem dX4_rest_16 : decode cX4_rest 16 = .ok (.bipush (-2), 2) := by decide +kernel
theorem dX4_rest_18 : decode cX4_rest 18 = .ok (.ireturn, 1) := by decide +kernel
theorem dX4_rest_19 : decode cX4_rest 19 = .ok (.aload_n 0, 1) := by decide +kernel
theorem dX4_rest_20 : decode cX4_rest 20 = .ok (.iload_n 1, 1) := by decide +kernel
theorem dX4_rest_21 : decode cX4_rest 21 = .ok (.invokevirtual 164, 3) := by decide +kernel
theorem dX4_rest_24 : decode cX4_rest 24 = .ok (.aload_n 0, 1) := by decide +kernel
theorem dX4_rest_25 : decode cX4_rest 25 = .ok (.getfield 16, 3) := by decide +kernel
theorem dX4_rest_28 : decode cX4_rest 28 = .ok (.invokevirtual 167, 3) := by decide +kernel
theorem dX4_rest_31 : decode cX4_rest 31 = .ok (.istore_n 3, 1) := by decide +kernel
theorem dX4_rest_32 : decode cX4_rest 32 = .ok (.iload_n 3, 1) := by decide +kernel
theorem dX4_rest_33 : decode cX4_rest 33 = .ok (.bipush (-6), 2) := by decide +kernel
theorem dX4_rest_35 : decode cX4_rest 35 = .ok (.if_icmp .eq 7, 3) := by decide +kernel
theorem dX4_rest_38 : decode cX4_rest 38 = .ok (.iload_n 2, 1) := by decide +kernel
theorem dX4_rest_39 : decode cX4_rest 39 = .ok (.ifCond .ne 5, 3) := by decide +kernel
theorem dX4_rest_42 : decode cX4_rest 42 = .ok (.iload_n 3, 1) := by decide +kernel
theorem dX4_rest_43 : decode cX4_rest 43 = .ok (.ireturn, 1) := by decide +kernel
theorem dX4_rest_44 : decode cX4_rest 44 = .ok (.iload_n 2, 1) := by decide +kernel
theorem dX4_rest_45 : decode cX4_rest 45 = .ok (.iconst 1, 1) := by decide +kernel
theorem dX4_rest_46 : decode cX4_rest 46 = .ok (.if_icmp .ne 21, 3) := by decide +kernel
theorem dX4_rest_49 : decode cX4_rest 49 = .ok (.aload_n 0, 1) := by decide +kernel
theorem dX4_rest_50 : decode cX4_rest 50 = .ok (.getfield 16, 3) := by decide +kernel
theorem dX4_rest_53 : decode cX4_rest 53 = .ok (.getfield 149, 3) := by decide +kernel
theorem dX4_rest_56 : decode cX4_rest 56 = .ok (.aload_n 0, 1) := by decide +kernel
theorem dX4_rest_57 : decode cX4_rest 57 = .ok (.getfield 12, 3) := by decide +kernel
theorem dX4_rest_60 : decode cX4_rest 60 = .ok (.getfield 149, 3) := by decide +kernel
theorem dX4_rest_63 : decode cX4_rest 63 = .ok (.isub, 1) := by decide +kernel
theorem dX4_rest_64 : decode cX4_rest 64 = .ok (.goto 18, 3) := by decide +kernel
theorem dX4_rest_67 : decode cX4_rest 67 = .ok (.aload_n 0, 1) := by decide +kernel
theorem dX4_rest_68 : decode cX4_rest 68 = .ok (.getfield 16, 3) := by decide +kernel
theorem dX4_rest_71 : decode cX4_rest 71 = .ok (.getfield 104, 3) := by decide +kernel
theorem dX4_rest_74 : decode cX4_rest 74 = .ok (.aload_n 0, 1) := by decide +kernel
theorem dX4_rest_75 : decode cX4_rest 75 = .ok (.getfield 12, 3) := by decide +kernel
theorem dX4_rest_78 : decode cX4_rest 78 = .ok (.getfield 104, 3) := by decide +kernel
theorem dX4_rest_81 : decode cX4_rest 81 = .ok (.isub, 1) := by decide +kernel
theorem dX4_rest_82 : decode cX4_rest 82 = .ok (.ireturn, 1) := by decide +kernel
set_option maxRecDepth 20000 in
theorem ggX4_race_X4_isButtonSet : GoodIn wsX4_race wsX4_isButtonSet := goodIn_r _ [5, 6, 7, 4, 8] (by decide +kernel) (by decide +kernel)
set_option maxRecDepth 20000 in
theorem gX4_race_X4_isButtonSet : GoodIn wsX4_race (va_wsS RX4 161 yX4_isButtonSet wsX4_isButtonSet) := goodIn_app (goodIn_of _ (by decide +kernel)) ggX4_race_X4_isButtonSet
set_option maxRecDepth 20000 in
theorem ggX4_race_X4_tryButtons : GoodIn wsX4_race wsX4_tryButtons := goodIn_r _ [12, 1, 13, 14, 15, 16, 17, 18, 19, 20, 21, 22, 23, 24, 25, 26, 27, 28, 29, 30, 31, 32, 33, 34, 35, 36, 37, 85, 86, 87, 88, 89, 90, 91, 92, 93, 94, 95, 96, 97, 98, 99, 100, 101, 102, 103, 104, 105] (by decide +kernel) (by decide +kernel)
set_option maxRecDepth 20000 in
theorem gX4_race_X4_tryButtons : GoodIn wsX4_race (wsV RX4 164 RX4 yX4_tryButtons wsX4_tryButtons) := goodIn_app (goodIn_of _ (by decide +kernel)) ggX4_race_X4_tryButtons
set_option maxRecDepth 20000 in
theorem ggX4_race_X3_upAtRest : GoodIn wsX4_race wsX3_upAtRest := goodIn_r _ [41, 20, 42, 43, 44, 18, 45, 46, 47, 48, 49, 21, 50, 51, 52, 53, 54, 55, 56, 57, 34, 58, 4, 59, 60, 61, 62, 63, 22, 35, 36, 64, 65, 66, 67, 24, 32, 68, 69, 70, 71, 72, 73, 74, 75, 76, 31, 26, 25, 77, 78, 79, 80, 33, 23, 92, 93, 94, 95, 96, 97, 98, 99, 100, 101, 102, 103, 104, 105] (by decide +kernel) (by decide +kernel)
set_option maxRecDepth 20000 in
theorem gX4_race_X3_upAtRest : GoodIn wsX4_race (wsV RX4 167 RX3 yX3_upAtRest wsX3_upAtRest) := goodIn_app (goodIn_of _ (by decide +kernel)) ggX4_race_X3_upAtRest
set_option maxRecDepth 20000 in
theorem ggX4_race_X3_makeAllTimesOne : GoodIn wsX4_race wsX3_makeAllTimesOne := goodIn_r _ [84, 26, 31, 92, 93, 94, 95, 96, 97, 98, 99, 100, 101, 102, 103, 104, 105] (by decide +kernel) (by decide +kernel)
set_option maxRecDepth 20000 in
theorem gX4_race_X3_makeAllTimesOne : GoodIn wsX4_race (wsV RX4 170 RX3 yX3_makeAllTimesOne wsX3_makeAllTimesOne) := goodIn_app (goodIn_of _ (by decide +kernel)) ggX4_race_X3_makeAllTimesOne
theorem dX4_race_0 : decode cX4_race 0 = .ok (.iload_n 1, 1) := by decide +kernel
theorem dX4_race_1 : decode cX4_race 1 = .ok (.invokestatic 161, 3) := by decide +kernel
theorem dX4_race_4 : decode cX4_race 4 = .ok (.ifCond .ne 6, 3) := by decide +kernel
theorem dX4_race_7 : decode cX4_race 7 = .ok (.bipush (-2), 2) := by decide +kernel
theorem dX4_race_9 : decode cX4_race 9 = .ok (.ireturn, 1) := by decide +kernel
theorem dX4_race_10 : decode cX4_race 10 = .ok (.aload_n 0, 1) := by decide +kernel
theorem dX4_race_11 : decode cX4_race 11 = .ok (.iload_n 1, 1) := by decide +kernel
theorem dX4_race_12 : decode cX4_race 12 = .ok (.invokevirtual 164, 3) := by decide +kernel
theorem dX4_race_15 : decode cX4_race 15 = .ok (.aload_n 0, 1) := by decide +kernel
theorem dX4_race_16 : decode cX4_race 16 = .ok (.getfield 16, 3) := by decide +kernel
theorem dX4_race_19 : decode cX4_race 19 = .ok (.invokevirtual 167, 3) := by decide +kernel
theorem dX4_race_22 : decode cX4_race 22 = .ok (.istore_n 2, 1) := by decide +kernel
theorem dX4_race_23 : decode cX4_race 23 = .ok (.aload_n 0, 1) := by decide +kernel
theorem dX4_race_24 : decode cX4_race 24 = .ok (.iload_n 1, 1) := by decide +kernel
theorem dX4_race_25 : decode cX4_race 25 = .ok (.invokevirtual 164, 3) := by decide +kernel
theorem dX4_race_28 : decode cX4_race 28 = .ok (.aload_n 0, 1) := by decide +kernel
theorem dX4_race_29 : decode cX4_race 29 = .ok (.getfield 16, 3) := by decide +kernel
theorem dX4_race_32 : decode cX4_race 32 = .ok (.invokevirtual 170, 3) := by decide +kernel
theorem dX4_race_35 : decode cX4_race 35 = .ok (.iload_n 2, 1) := by decide +kernel
theorem dX4_race_36 : decode cX4_race 36 = .ok (.aload_n 0, 1) := by decide +kernel
theorem dX4_race_37 : decode cX4_race 37 = .ok (.getfield 16, 3) := by decide +kernel
theorem dX4_race_40 : decode cX4_race 40 = .ok (.invokevirtual 167, 3) := by decide +kernel
theorem dX4_race_43 : decode cX4_race 43 = .ok (.if_icmp .ne 7, 3) := by decide +kernel
theorem dX4_race_46 : decode cX4_race 46 = .ok (.iconst 0, 1) := by decide +kernel
theorem dX4_race_47 : decode cX4_race 47 = .ok (.goto 4, 3) := by decide +kernel
theorem dX4_race_50 : decode cX4_race 50 = .ok (.iconst 1, 1) := by decide +kernel
theorem dX4_race_51 : decode cX4_race 51 = .ok (.ireturn, 1) := by decide +kernel
set_option maxRecDepth 20000 in
theorem ggX4_ifWelded_X4_isRelay : GoodIn wsX4_ifWelded wsX4_isRelay := goodIn_r _ [5, 6, 7, 4, 8] (by decide +kernel) (by decide +kernel)
set_option maxRecDepth 20000 in
theorem gX4_ifWelded_X4_isRelay : GoodIn wsX4_ifWelded (va_wsS RX4 48 yX4_isRelay wsX4_isRelay) := goodIn_app (goodIn_of _ (by decide +kernel)) ggX4_ifWelded_X4_isRelay
set_option maxRecDepth 20000 in
theorem ggX4_ifWelded_X4_tryWelded : GoodIn wsX4_ifWelded wsX4_tryWelded := goodIn_r _ [12, 1, 13, 14, 15, 16, 17, 4, 18, 19, 20, 21, 22, 23, 24, 25, 26, 27, 28, 29, 30, 31, 32, 33, 34, 35, 36, 37, 38, 39, 40, 41, 42, 43, 87, 88, 89, 90, 91, 92, 93, 94, 95, 96, 97, 98, 99, 100, 101, 102, 103, 104, 105, 106, 107] (by decide +kernel) (by decide +kernel)
set_option maxRecDepth 20000 in
theorem gX4_ifWelded_X4_tryWelded : GoodIn wsX4_ifWelded (wsV RX4 173 RX4 yX4_tryWelded wsX4_tryWelded) := goodIn_app (goodIn_of _ (by decide +kernel)) ggX4_ifWelded_X4_tryWelded
set_option maxRecDepth 20000 in
theorem ggX4_ifWelded_X3_upAtRest : GoodIn wsX4_ifWelded wsX3_upAtRest := goodIn_r _ [47, 26, 48, 49, 50, 24, 51, 52, 53, 54, 55, 27, 56, 57, 58, 59, 60, 61, 62, 63, 40, 64, 4, 65, 66, 67, 68, 69, 28, 41, 42, 70, 71, 72, 73, 30, 38, 74, 75, 76, 77, 78, 79, 80, 81, 82, 37, 32, 31, 83, 84, 85, 86, 39, 29, 94, 95, 96, 97, 98, 99, 100, 101, 102, 103, 104, 105, 106, 107] (by decide +kernel) (by decide +kernel)
set_option maxRecDepth 20000 in
theorem gX4_ifWelded_X3_upAtRest : GoodIn wsX4_ifWelded (wsV RX4 167 RX3 yX3_upAtRest wsX3_upAtRest) := goodIn_app (goodIn_of _ (by decide +kernel)) ggX4_ifWelded_X3_upAtRest
set_option maxRecDepth 20000 in
theorem ggX4_ifWelded_X4_bit : GoodIn wsX4_ifWelded wsX4_bit := goodIn_r _ [78] (by decide +kernel) (by decide +kernel)
set_option maxRecDepth 20000 in
theorem gX4_ifWelded_X4_bit : GoodIn wsX4_ifWelded (va_wsS RX4 114 yX4_bit wsX4_bit) := goodIn_app (goodIn_of _ (by decide +kernel)) ggX4_ifWelded_X4_bit
theorem dX4_ifWelded_0 : decode cX4_ifWelded 0 = .ok (.iload_n 1, 1) := by decide +kernel
theorem dX4_ifWelded_1 : decode cX4_ifWelded 1 = .ok (.invokestatic 48, 3) := by decide +kernel
theorem dX4_ifWelded_4 : decode cX4_ifWelded 4 = .ok (.ifCond .eq 10, 3) := by decide +kernel
theorem dX4_ifWelded_7 : decode cX4_ifWelded 7 = .ok (.iload_n 2, 1) := by decide +kernel
theorem dX4_ifWelded_8 : decode cX4_ifWelded 8 = .ok (.invokestatic 48, 3) := by decide +kernel
theorem dX4_ifWelded_11 : decode cX4_ifWelded 11 = .ok (.ifCond .ne 5, 3) := by decide +kernel
theorem dX4_ifWelded_14 : decode cX4_ifWelded 14 = .ok (.iconst (-1), 1) := by decide +kernel
theorem dX4_ifWelded_15 : decode cX4_ifWelded 15 = .ok (.ireturn, 1) := by decide +kernel
theorem dX4_ifWelded_16 : decode cX4_ifWelded 16 = .ok (.iload_n 1, 1) := by decide +kernel
theorem dX4_ifWelded_17 : decode cX4_ifWelded 17 = .ok (.iload_n 2, 1) := by decide +kernel
theorem dX4_ifWelded_18 : decode cX4_ifWelded 18 = .ok (.if_icmp .ne 6, 3) := by decide +kernel
theorem dX4_ifWelded_21 : decode cX4_ifWelded 21 = .ok (.bipush (-2), 2) := by decide +kernel
theorem dX4_ifWelded_23 : decode cX4_ifWelded 23 = .ok (.ireturn, 1) := by decide +kernel
theorem dX4_ifWelded_24 : decode cX4_ifWelded 24 = .ok (.aload_n 0, 1) := by decide +kernel
theorem dX4_ifWelded_25 : decode cX4_ifWelded 25 = .ok (.iload_n 2, 1) := by decide +kernel
theorem dX4_ifWelded_26 : decode cX4_ifWelded 26 = .ok (.invokevirtual 173, 3) := by decide +kernel
theorem dX4_ifWelded_29 : decode cX4_ifWelded 29 = .ok (.aload_n 0, 1) := by decide +kernel
theorem dX4_ifWelded_30 : decode cX4_ifWelded 30 = .ok (.getfield 16, 3) := by decide +kernel
theorem dX4_ifWelded_33 : decode cX4_ifWelded 33 = .ok (.invokevirtual 167, 3) := by decide +kernel
theorem dX4_ifWelded_36 : decode cX4_ifWelded 36 = .ok (.istore_n 3, 1) := by decide +kernel
theorem dX4_ifWelded_37 : decode cX4_ifWelded 37 = .ok (.iload_n 3, 1) := by decide +kernel
theorem dX4_ifWelded_38 : decode cX4_ifWelded 38 = .ok (.bipush (-6), 2) := by decide +kernel
theorem dX4_ifWelded_40 : decode cX4_ifWelded 40 = .ok (.if_icmp .ne 8, 3) := by decide +kernel
theorem dX4_ifWelded_43 : decode cX4_ifWelded 43 = .ok (.bipush (-6), 2) := by decide +kernel
theorem dX4_ifWelded_45 : decode cX4_ifWelded 45 = .ok (.goto 8, 3) := by decide +kernel
theorem dX4_ifWelded_48 : decode cX4_ifWelded 48 = .ok (.iload_n 3, 1) := by decide +kernel
theorem dX4_ifWelded_49 : decode cX4_ifWelded 49 = .ok (.iload_n 1, 1) := by decide +kernel
theorem dX4_ifWelded_50 : decode cX4_ifWelded 50 = .ok (.invokestatic 114, 3) := by decide +kernel
theorem dX4_ifWelded_53 : decode cX4_ifWelded 53 = .ok (.ireturn, 1) := by decide +kernel
set_option maxRecDepth 20000 in
theorem ggX4_unsafe_X4_isRelay : GoodIn wsX4_unsafe wsX4_isRelay := goodIn_r _ [5, 6, 7, 4, 8] (by decide +kernel) (by decide +kernel)
set_option maxRecDepth 20000 in
theorem gX4_unsafe_X4_isRelay : GoodIn wsX4_unsafe (va_wsS RX4 48 yX4_isRelay wsX4_isRelay) := goodIn_app (goodIn_of _ (by decide +kernel)) ggX4_unsafe_X4_isRelay
set_option maxRecDepth 20000 in
theorem ggX4_unsafe_X4_tryWelded : GoodIn wsX4_unsafe wsX4_tryWelded := goodIn_r _ [12, 1, 13, 14, 15, 16, 17, 4, 18, 19, 20, 21, 22, 23, 24, 25, 26, 27, 28, 29, 30, 31, 32, 33, 34, 35, 36, 37, 38, 39, 40, 41, 42, 43, 91, 92, 93, 94, 95, 96, 97, 98, 99, 100, 101, 102, 103, 104, 105, 106, 107, 108, 109, 110, 111] (by decide +kernel) (by decide +kernel)
set_option maxRecDepth 20000 in
theorem gX4_unsafe_X4_tryWelded : GoodIn wsX4_unsafe (wsV RX4 173 RX4 yX4_tryWelded wsX4_tryWelded) := goodIn_app (goodIn_of _ (by decide +kernel)) ggX4_unsafe_X4_tryWelded
set_option maxRecDepth 20000 in
theorem ggX4_unsafe_X3_upAtRest : GoodIn wsX4_unsafe wsX3_upAtRest := goodIn_r _ [47, 26, 48, 49, 50, 24, 51, 52, 53, 54, 55, 27, 56, 57, 58, 59, 60, 61, 62, 63, 40, 64, 4, 65, 66, 67, 68, 69, 28, 41, 42, 70, 71, 72, 73, 30, 38, 74, 75, 76, 77, 78, 79, 80, 81, 82, 37, 32, 31, 83, 84, 85, 86, 39, 29, 98, 99, 100, 101, 102, 103, 104, 105, 106, 107, 108, 109, 110, 111] (by decide +kernel) (by decide +kernel)
set_option maxRecDepth 20000 in
theorem gX4_unsafe_X3_upAtRest : GoodIn wsX4_unsafe (wsV RX4 167 RX3 yX3_upAtRest wsX3_upAtRest) := goodIn_app (goodIn_of _ (by decide +kernel)) ggX4_unsafe_X3_upAtRest
set_option maxRecDepth 20000 in
theorem ggX4_unsafe_X4_isUpIn : GoodIn wsX4_unsafe wsX4_isUpIn := goodIn_r _ [89, 90, 74, 4, 75, 76, 77, 78] (by decide +kernel) (by decide +kernel)
set_option maxRecDepth 20000 in
theorem gX4_unsafe_X4_isUpIn : GoodIn wsX4_unsafe (va_wsS RX4 176 yX4_isUpIn wsX4_isUpIn) := goodIn_app (goodIn_of _ (by decide +kernel)) ggX4_unsafe_X4_isUpIn
theorem dX4_unsafe_0 : decode cX4_unsafe 0 = .ok (.iload_n 1, 1) := by decide +kernel
theorem dX4_unsafe_1 : decode cX4_unsafe 1 = .ok (.invokestatic 48, 3) := by decide +kernel
theorem dX4_unsafe_4 : decode cX4_unsafe 4 = .ok (.ifCond .ne 5, 3) := by decide +kernel
theorem dX4_unsafe_7 : decode cX4_unsafe 7 = .ok (.iconst (-1), 1) := by decide +kernel
theorem dX4_unsafe_8 : decode cX4_unsafe 8 = .ok (.ireturn, 1) := by decide +kernel
theorem dX4_unsafe_9 : decode cX4_unsafe 9 = .ok (.iconst 0, 1) := by decide +kernel
theorem dX4_unsafe_10 : decode cX4_unsafe 10 = .ok (.istore_n 2, 1) := by decide +kernel
theorem dX4_unsafe_11 : decode cX4_unsafe 11 = .ok (.iconst 0, 1) := by decide +kernel
theorem dX4_unsafe_12 : decode cX4_unsafe 12 = .ok (.istore_n 3, 1) := by decide +kernel
theorem dX4_unsafe_13 : decode cX4_unsafe 13 = .ok (.iload_n 3, 1) := by decide +kernel
theorem dX4_unsafe_14 : decode cX4_unsafe 14 = .ok (.bipush 10, 2) := by decide +kernel
theorem dX4_unsafe_16 : decode cX4_unsafe 16 = .ok (.if_icmp .ge 39, 3) := by decide +kernel
theorem dX4_unsafe_19 : decode cX4_unsafe 19 = .ok (.aload_n 0, 1) := by decide +kernel
theorem dX4_unsafe_20 : decode cX4_unsafe 20 = .ok (.iload_n 3, 1) := by decide +kernel
