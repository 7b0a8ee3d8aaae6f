theorem dX5_restWith_21 : decode cX5_restWith 21 = .ok (.invokevirtual 70, 3) := by decide +kernel
theorem dX5_restWith_24 : decode cX5_restWith 24 = .ok (.ifCond .eq 8, 3) := by decide +kernel
theorem dX5_restWith_27 : decode cX5_restWith 27 = .ok (.bipush (-6), 2) := by decide +kernel
theorem dX5_restWith_29 : decode cX5_restWith 29 = .ok (.goto 34, 3) := by decide +kernel
theorem dX5_restWith_32 : decode cX5_restWith 32 = .ok (.iload_n 2, 1) := by decide +kernel
theorem dX5_restWith_33 : decode cX5_restWith 33 = .ok (.ifCond .ne 12, 3) := by decide +kernel
theorem dX5_restWith_36 : decode cX5_restWith 36 = .ok (.aload_n 0, 1) := by decide +kernel
theorem dX5_restWith_37 : decode cX5_restWith 37 = .ok (.getfield 7, 3) := by decide +kernel
theorem dX5_restWith_40 : decode cX5_restWith 40 = .ok (.iconst 0, 1) := by decide +kernel
theorem dX5_restWith_41 : decode cX5_restWith 41 = .ok (.iaload, 1) := by decide +kernel
theorem dX5_restWith_42 : decode cX5_restWith 42 = .ok (.goto 21, 3) := by decide +kernel
theorem dX5_restWith_45 : decode cX5_restWith 45 = .ok (.iload_n 2, 1) := by decide +kernel
theorem dX5_restWith_46 : decode cX5_restWith 46 = .ok (.iconst 1, 1) := by decide +kernel
theorem dX5_restWith_47 : decode cX5_restWith 47 = .ok (.if_icmp .ne 8, 3) := by decide +kernel
theorem dX5_restWith_50 : decode cX5_restWith 50 = .ok (.iload 4, 2) := by decide +kernel
theorem dX5_restWith_52 : decode cX5_restWith 52 = .ok (.goto 11, 3) := by decide +kernel
theorem dX5_restWith_55 : decode cX5_restWith 55 = .ok (.aload_n 0, 1) := by decide +kernel
theorem dX5_restWith_56 : decode cX5_restWith 56 = .ok (.getfield 7, 3) := by decide +kernel
theorem dX5_restWith_59 : decode cX5_restWith 59 = .ok (.iconst 4, 1) := by decide +kernel
theorem dX5_restWith_60 : decode cX5_restWith 60 = .ok (.iaload, 1) := by decide +kernel
theorem dX5_restWith_61 : decode cX5_restWith 61 = .ok (.iload_n 3, 1) := by decide +kernel
theorem dX5_restWith_62 : decode cX5_restWith 62 = .ok (.isub, 1) := by decide +kernel
theorem dX5_restWith_63 : decode cX5_restWith 63 = .ok (.istore 5, 2) := by decide +kernel
theorem dX5_restWith_65 : decode cX5_restWith 65 = .ok (.aload_n 0, 1) := by decide +kernel
theorem dX5_restWith_66 : decode cX5_restWith 66 = .ok (.getfield 13, 3) := by decide +kernel
theorem dX5_restWith_69 : decode cX5_restWith 69 = .ok (.iconst 0, 1) := by decide +kernel
theorem dX5_restWith_70 : decode cX5_restWith 70 = .ok (.aload_n 0, 1) := by decide +kernel
theorem dX5_restWith_71 : decode cX5_restWith 71 = .ok (.getfield 7, 3) := by decide +kernel
theorem dX5_restWith_74 : decode cX5_restWith 74 = .ok (.iconst 0, 1) := by decide +kernel
theorem dX5_restWith_75 : decode cX5_restWith 75 = .ok (.invokestatic 39, 3) := by decide +kernel
theorem dX5_restWith_78 : decode cX5_restWith 78 = .ok (.iload 5, 2) := by decide +kernel
theorem dX5_restWith_80 : decode cX5_restWith 80 = .ok (.ireturn, 1) := by decide +kernel
set_option maxRecDepth 20000 in
theorem ggX5_rest_X5_isSet : GoodIn wsX5_rest wsX5_isSet := goodIn_r _ [6, 7, 8, 5, 9] (by decide +kernel) (by decide +kernel)
set_option maxRecDepth 20000 in
theorem gX5_rest_X5_isSet : GoodIn wsX5_rest (va_wsS RX5 127 yX5_isSet wsX5_isSet) := goodIn_app (goodIn_of _ (by decide +kernel)) ggX5_rest_X5_isSet
set_option maxRecDepth 20000 in
theorem ggX5_rest_X5_within : GoodIn wsX5_rest wsX5_within := goodIn_r _ [9] (by decide +kernel) (by decide +kernel)
set_option maxRecDepth 20000 in
theorem gX5_rest_X5_within : GoodIn wsX5_rest (va_wsS RX5 43 yX5_within wsX5_within) := goodIn_app (goodIn_of _ (by decide +kernel)) ggX5_rest_X5_within
set_option maxRecDepth 20000 in
theorem ggX5_rest_X5_moves : GoodIn wsX5_rest wsX5_moves := goodIn_r _ [12] (by decide +kernel) (by decide +kernel)
set_option maxRecDepth 20000 in
theorem gX5_rest_X5_moves : GoodIn wsX5_rest (va_wsS RX5 39 yX5_moves wsX5_moves) := goodIn_app (goodIn_of _ (by decide +kernel)) ggX5_rest_X5_moves
set_option maxRecDepth 20000 in
theorem ggX5_rest_X5_restWith : GoodIn wsX5_rest wsX5_restWith := goodIn_r _ [16, 1, 2, 17, 18, 19, 5, 20, 21, 22, 23, 24, 25, 26, 27, 28, 29, 30, 31, 32, 33, 34, 35, 36, 37, 38, 39, 40, 41, 42, 43, 44, 45, 46, 47, 48, 49, 50, 51, 52, 53, 54, 55, 56, 57, 58, 59, 10, 11, 12, 60, 61, 62, 63, 64, 65, 66, 67, 68, 69, 70, 71] (by decide +kernel) (by decide +kernel)
set_option maxRecDepth 20000 in
theorem gX5_rest_X5_restWith : GoodIn wsX5_rest (wsV RX5 130 RX5 yX5_restWith wsX5_restWith) := goodIn_app (goodIn_of _ (by decide +kernel)) ggX5_rest_X5_restWith
theorem dX5_rest_0 : decode cX5_rest 0 = .ok (.iload_n 1, 1) := by decide +kernel
theorem dX5_rest_1 : decode cX5_rest 1 = .ok (.invokestatic 127, 3) := by decide +kernel
theorem dX5_rest_4 : decode cX5_rest 4 = .ok (.ifCond .eq 12, 3) := by decide +kernel
theorem dX5_rest_7 : decode cX5_rest 7 = .ok (.iload_n 2, 1) := by decide +kernel
theorem dX5_rest_8 : decode cX5_rest 8 = .ok (.iconst 0, 1) := by decide +kernel
theorem dX5_rest_9 : decode cX5_rest 9 = .ok (.iconst 2, 1) := by decide +kernel
theorem dX5_rest_10 : decode cX5_rest 10 = .ok (.invokestatic 43, 3) := by decide +kernel
theorem dX5_rest_13 : decode cX5_rest 13 = .ok (.ifCond .ne 6, 3) := by decide +kernel
theorem dX5_rest_16 : decode cX5_rest 16 = .ok (.bipush (-2), 2) := by decide +kernel
theorem dX5_rest_18 : decode cX5_rest 18 = .ok (.ireturn, 1) := by decide +kernel
theorem dX5_rest_19 : decode cX5_rest 19 = .ok (.aload_n 0, 1) := by decide +kernel
theorem dX5_rest_20 : decode cX5_rest 20 = .ok (.getfield 7, 3) := by decide +kernel
theorem dX5_rest_23 : decode cX5_rest 23 = .ok (.iconst 0, 1) := by decide +kernel
theorem dX5_rest_24 : decode cX5_rest 24 = .ok (.aload_n 0, 1) := by decide +kernel
theorem dX5_rest_25 : decode cX5_rest 25 = .ok (.getfield 13, 3) := by decide +kernel
theorem dX5_rest_28 : decode cX5_rest 28 = .ok (.iconst 0, 1) := by decide +kernel
theorem dX5_rest_29 : decode cX5_rest 29 = .ok (.invokestatic 39, 3) := by decide +kernel
theorem dX5_rest_32 : decode cX5_rest 32 = .ok (.aload_n 0, 1) := by decide +kernel
theorem dX5_rest_33 : decode cX5_rest 33 = .ok (.iload_n 1, 1) := by decide +kernel
theorem dX5_rest_34 : decode cX5_rest 34 = .ok (.iload_n 2, 1) := by decide +kernel
theorem dX5_rest_35 : decode cX5_rest 35 = .ok (.invokevirtual 130, 3) := by decide +kernel
theorem dX5_rest_38 : decode cX5_rest 38 = .ok (.ireturn, 1) := by decide +kernel
set_option maxRecDepth 20000 in
theorem ggX5_race_X5_isSet : GoodIn wsX5_race wsX5_isSet := goodIn_r _ [6, 7, 8, 5, 9] (by decide +kernel) (by decide +kernel)
set_option maxRecDepth 20000 in
theorem gX5_race_X5_isSet : GoodIn wsX5_race (va_wsS RX5 127 yX5_isSet wsX5_isSet) := goodIn_app (goodIn_of _ (by decide +kernel)) ggX5_race_X5_isSet
set_option maxRecDepth 20000 in
theorem ggX5_race_X5_moves : GoodIn wsX5_race wsX5_moves := goodIn_r _ [12] (by decide +kernel) (by decide +kernel)
set_option maxRecDepth 20000 in
theorem gX5_race_X5_moves : GoodIn wsX5_race (va_wsS RX5 39 yX5_moves wsX5_moves) := goodIn_app (goodIn_of _ (by decide +kernel)) ggX5_race_X5_moves
set_option maxRecDepth 20000 in
theorem ggX5_race_X5_restWith : GoodIn wsX5_race wsX5_restWith := goodIn_r _ [16, 1, 2, 17, 18, 19, 5, 20, 21, 22, 23, 24, 25, 26, 27, 28, 29, 30, 31, 32, 33, 34, 35, 36, 37, 38, 39, 40, 41, 42, 43, 44, 45, 46, 47, 48, 49, 50, 51, 52, 53, 54, 55, 56, 57, 58, 59, 10, 11, 12, 60, 61, 62, 63, 64, 65, 66, 67, 68, 69, 70, 71] (by decide +kernel) (by decide +kernel)
set_option maxRecDepth 20000 in
theorem gX5_race_X5_restWith : GoodIn wsX5_race (wsV RX5 130 RX5 yX5_restWith wsX5_restWith) := goodIn_app (goodIn_of _ (by decide +kernel)) ggX5_race_X5_restWith
set_option maxRecDepth 20000 in
theorem ggX5_race_X5_setPart : GoodIn wsX5_race wsX5_setPart := goodIn_r _ [55, 1, 60, 61, 62, 63, 64, 65, 66, 67, 68, 69, 70, 71] (by decide +kernel) (by decide +kernel)
set_option maxRecDepth 20000 in
theorem gX5_race_X5_setPart : GoodIn wsX5_race (wsV RX5 31 RX5 yX5_setPart wsX5_setPart) := goodIn_app (goodIn_of _ (by decide +kernel)) ggX5_race_X5_setPart
theorem dX5_race_0 : decode cX5_race 0 = .ok (.iload_n 1, 1) := by decide +kernel
theorem dX5_race_1 : decode cX5_race 1 = .ok (.invokestatic 127, 3) := by decide +kernel
theorem dX5_race_4 : decode cX5_race 4 = .ok (.ifCond .ne 6, 3) := by decide +kernel
theorem dX5_race_7 : decode cX5_race 7 = .ok (.bipush (-2), 2) := by decide +kernel
theorem dX5_race_9 : decode cX5_race 9 = .ok (.ireturn, 1) := by decide +kernel
theorem dX5_race_10 : decode cX5_race 10 = .ok (.aload_n 0, 1) := by decide +kernel
theorem dX5_race_11 : decode cX5_race 11 = .ok (.getfield 7, 3) := by decide +kernel
theorem dX5_race_14 : decode cX5_race 14 = .ok (.iconst 0, 1) := by decide +kernel
theorem dX5_race_15 : decode cX5_race 15 = .ok (.aload_n 0, 1) := by decide +kernel
theorem dX5_race_16 : decode cX5_race 16 = .ok (.getfield 13, 3) := by decide +kernel
theorem dX5_race_19 : decode cX5_race 19 = .ok (.iconst 0, 1) := by decide +kernel
theorem dX5_race_20 : decode cX5_race 20 = .ok (.invokestatic 39, 3) := by decide +kernel
theorem dX5_race_23 : decode cX5_race 23 = .ok (.aload_n 0, 1) := by decide +kernel
theorem dX5_race_24 : decode cX5_race 24 = .ok (.iload_n 1, 1) := by decide +kernel
theorem dX5_race_25 : decode cX5_race 25 = .ok (.iconst 0, 1) := by decide +kernel
theorem dX5_race_26 : decode cX5_race 26 = .ok (.invokevirtual 130, 3) := by decide +kernel
theorem dX5_race_29 : decode cX5_race 29 = .ok (.istore_n 2, 1) := by decide +kernel
theorem dX5_race_30 : decode cX5_race 30 = .ok (.iconst 0, 1) := by decide +kernel
theorem dX5_race_31 : decode cX5_race 31 = .ok (.istore_n 3, 1) := by decide +kernel
theorem dX5_race_32 : decode cX5_race 32 = .ok (.iload_n 3, 1) := by decide +kernel
theorem dX5_race_33 : decode cX5_race 33 = .ok (.bipush 10, 2) := by decide +kernel
theorem dX5_race_35 : decode cX5_race 35 = .ok (.if_icmp .ge 23, 3) := by decide +kernel
theorem dX5_race_38 : decode cX5_race 38 = .ok (.aload_n 0, 1) := by decide +kernel
theorem dX5_race_39 : decode cX5_race 39 = .ok (.iload_n 3, 1) := by decide +kernel
theorem dX5_race_40 : decode cX5_race 40 = .ok (.iconst 0, 1) := by decide +kernel
theorem dX5_race_41 : decode cX5_race 41 = .ok (.iconst 1, 1) := by decide +kernel
theorem dX5_race_42 : decode cX5_race 42 = .ok (.invokevirtual 31, 3) := by decide +kernel
theorem dX5_race_45 : decode cX5_race 45 = .ok (.aload_n 0, 1) := by decide +kernel
theorem dX5_race_46 : decode cX5_race 46 = .ok (.iload_n 3, 1) := by decide +kernel
theorem dX5_race_47 : decode cX5_race 47 = .ok (.iconst 1, 1) := by decide +kernel
theorem dX5_race_48 : decode cX5_race 48 = .ok (.iconst 1, 1) := by decide +kernel
theorem dX5_race_49 : decode cX5_race 49 = .ok (.invokevirtual 31, 3) := by decide +kernel
theorem dX5_race_52 : decode cX5_race 52 = .ok (.iinc 3 1, 3) := by decide +kernel
theorem dX5_race_55 : decode cX5_race 55 = .ok (.goto (-23), 3) := by decide +kernel
theorem dX5_race_58 : decode cX5_race 58 = .ok (.iload_n 2, 1) := by decide +kernel
theorem dX5_race_59 : decode cX5_race 59 = .ok (.aload_n 0, 1) := by decide +kernel
theorem dX5_race_60 : decode cX5_race 60 = .ok (.iload_n 1, 1) := by decide +kernel
theorem dX5_race_61 : decode cX5_race 61 = .ok (.iconst 0, 1) := by decide +kernel
theorem dX5_race_62 : decode cX5_race 62 = .ok (.invokevirtual 130, 3) := by decide +kernel
theorem dX5_race_65 : decode cX5_race 65 = .ok (.if_icmp .ne 7, 3) := by decide +kernel
theorem dX5_race_68 : decode cX5_race 68 = .ok (.iconst 0, 1) := by decide +kernel
theorem dX5_race_69 : decode cX5_race 69 = .ok (.goto 4, 3) := by decide +kernel
theorem dX5_race_72 : decode cX5_race 72 = .ok (.iconst 1, 1) := by decide +kernel
theorem dX5_race_73 : decode cX5_race 73 = .ok (.ireturn, 1) := by decide +kernel
set_option maxRecDepth 20000 in
theorem ggX5_upIfWelded_X5_moves : GoodIn wsX5_upIfWelded wsX5_moves := goodIn_r _ [6] (by decide +kernel) (by decide +kernel)
set_option maxRecDepth 20000 in
theorem gX5_upIfWelded_X5_moves : GoodIn wsX5_upIfWelded (va_wsS RX5 39 yX5_moves wsX5_moves) := goodIn_app (goodIn_of _ (by decide +kernel)) ggX5_upIfWelded_X5_moves
set_option maxRecDepth 20000 in
theorem ggX5_upIfWelded_X5_restWith : GoodIn wsX5_upIfWelded wsX5_restWith := goodIn_r _ [10, 1, 2, 11, 12, 13, 5, 14, 15, 16, 17, 18, 19, 20, 21, 22, 23, 24, 25, 26, 27, 28, 29, 30, 31, 32, 33, 34, 35, 36, 37, 38, 39, 40, 41, 42, 43, 44, 45, 46, 47, 48, 49, 50, 51, 52, 53, 3, 4, 6, 54, 55, 56, 57, 58, 59, 60, 61, 62, 63, 64, 65] (by decide +kernel) (by decide +kernel)
set_option maxRecDepth 20000 in
theorem gX5_upIfWelded_X5_restWith : GoodIn wsX5_upIfWelded (wsV RX5 130 RX5 yX5_restWith wsX5_restWith) := goodIn_app (goodIn_of _ (by decide +kernel)) ggX5_upIfWelded_X5_restWith
theorem dX5_upIfWelded_0 : decode cX5_upIfWelded 0 = .ok (.aload_n 0, 1) := by decide +kernel
theorem dX5_upIfWelded_1 : decode cX5_upIfWelded 1 = .ok (.getfield 7, 3) := by decide +kernel
theorem dX5_upIfWelded_4 : decode cX5_upIfWelded 4 = .ok (.iconst 0, 1) := by decide +kernel
theorem dX5_upIfWelded_5 : decode cX5_upIfWelded 5 = .ok (.aload_n 0, 1) := by decide +kernel
theorem dX5_upIfWelded_6 : decode cX5_upIfWelded 6 = .ok (.getfield 13, 3) := by decide +kernel
theorem dX5_upIfWelded_9 : decode cX5_upIfWelded 9 = .ok (.iconst 0, 1) := by decide +kernel
theorem dX5_upIfWelded_10 : decode cX5_upIfWelded 10 = .ok (.invokestatic 39, 3) := by decide +kernel
theorem dX5_upIfWelded_13 : decode cX5_upIfWelded 13 = .ok (.aload_n 0, 1) := by decide +kernel
theorem dX5_upIfWelded_14 : decode cX5_upIfWelded 14 = .ok (.getfield 7, 3) := by decide +kernel
theorem dX5_upIfWelded_17 : decode cX5_upIfWelded 17 = .ok (.iconst 0, 1) := by decide +kernel
theorem dX5_upIfWelded_18 : decode cX5_upIfWelded 18 = .ok (.dup2, 1) := by decide +kernel
theorem dX5_upIfWelded_19 : decode cX5_upIfWelded 19 = .ok (.iaload, 1) := by decide +kernel
theorem dX5_upIfWelded_20 : decode cX5_upIfWelded 20 = .ok (.iconst 1, 1) := by decide +kernel
theorem dX5_upIfWelded_21 : decode cX5_upIfWelded 21 = .ok (.iload_n 2, 1) := by decide +kernel
theorem dX5_upIfWelded_22 : decode cX5_upIfWelded 22 = .ok (.ishl, 1) := by decide +kernel
theorem dX5_upIfWelded_23 : decode cX5_upIfWelded 23 = .ok (.ior, 1) := by decide +kernel
theorem dX5_upIfWelded_24 : decode cX5_upIfWelded 24 = .ok (.iastore, 1) := by decide +kernel
theorem dX5_upIfWelded_25 : decode cX5_upIfWelded 25 = .ok (.aload_n 0, 1) := by decide +kernel
theorem dX5_upIfWelded_26 : decode cX5_upIfWelded 26 = .ok (.getfield 7, 3) := by decide +kernel
theorem dX5_upIfWelded_29 : decode cX5_upIfWelded 29 = .ok (.iconst 1, 1) := by decide +kernel
theorem dX5_upIfWelded_30 : decode cX5_upIfWelded 30 = .ok (.dup2, 1) := by decide +kernel
theorem dX5_upIfWelded_31 : decode cX5_upIfWelded 31 = .ok (.iaload, 1) := by decide +kernel
theorem dX5_upIfWelded_32 : decode cX5_upIfWelded 32 = .ok (.iconst 1, 1) := by decide +kernel
theorem dX5_upIfWelded_33 : decode cX5_upIfWelded 33 = .ok (.iload_n 2, 1) := by decide +kernel
theorem dX5_upIfWelded_34 : decode cX5_upIfWelded 34 = .ok (.ishl, 1) := by decide +kernel
theorem dX5_upIfWelded_35 : decode cX5_upIfWelded 35 = .ok (.ior, 1) := by decide +kernel
theorem dX5_upIfWelded_36 : decode cX5_upIfWelded 36 = .ok (.iastore, 1) := by decide +kernel
theorem dX5_upIfWelded_37 : decode cX5_upIfWelded 37 = .ok (.aload_n 0, 1) := by decide +kernel
theorem dX5_upIfWelded_38 : decode cX5_upIfWelded 38 = .ok (.iconst 0, 1) := by decide +kernel
theorem dX5_upIfWelded_39 : decode cX5_upIfWelded 39 = .ok (.iconst 0, 1) := by decide +kernel
theorem dX5_upIfWelded_40 : decode cX5_upIfWelded 40 = .ok (.invokevirtual 130, 3) := by decide +kernel
theorem dX5_upIfWelded_43 : decode cX5_upIfWelded 43 = .ok (.istore_n 3, 1) := by decide +kernel
theorem dX5_upIfWelded_44 : decode cX5_upIfWelded 44 = .ok (.iload_n 3, 1) := by decide +kernel
theorem dX5_upIfWelded_45 : decode cX5_upIfWelded 45 = .ok (.bipush (-6), 2) := by decide +kernel
theorem dX5_upIfWelded_47 : decode cX5_upIfWelded 47 = .ok (.if_icmp .ne 8, 3) := by decide +kernel
theorem dX5_upIfWelded_50 : decode cX5_upIfWelded 50 = .ok (.bipush (-6), 2) := by decide +kernel
theorem dX5_upIfWelded_52 : decode cX5_upIfWelded 52 = .ok (.goto 8, 3) := by decide +kernel
theorem dX5_upIfWelded_55 : decode cX5_upIfWelded 55 = .ok (.iload_n 3, 1) := by decide +kernel
theorem dX5_upIfWelded_56 : decode cX5_upIfWelded 56 = .ok (.iload_n 1, 1) := by decide +kernel
theorem dX5_upIfWelded_57 : decode cX5_upIfWelded 57 = .ok (.ishr, 1) := by decide +kernel
theorem dX5_upIfWelded_58 : decode cX5_upIfWelded 58 = .ok (.iconst 1, 1) := by decide +kernel
theorem dX5_upIfWelded_59 : decode cX5_upIfWelded 59 = .ok (.iand, 1) := by decide +kernel
theorem dX5_upIfWelded_60 : decode cX5_upIfWelded 60 = .ok (.ireturn, 1) := by decide +kernel
set_option maxRecDepth 20000 in
theorem ggX5_ifWelded_X5_isRelay : GoodIn wsX5_ifWelded wsX5_isRelay := goodIn_r _ [4, 5, 6, 3, 7] (by decide +kernel) (by decide +kernel)
set_option maxRecDepth 20000 in
theorem gX5_ifWelded_X5_isRelay : GoodIn wsX5_ifWelded (va_wsS RX5 80 yX5_isRelay wsX5_isRelay) := goodIn_app (goodIn_of _ (by decide +kernel)) ggX5_ifWelded_X5_isRelay
set_option maxRecDepth 20000 in
theorem ggX5_ifWelded_X5_upIfWelded : GoodIn wsX5_ifWelded wsX5_upIfWelded := goodIn_r _ [11, 12, 13, 14, 15, 3, 16, 17, 18, 19, 20, 21, 22, 23, 24, 25, 26, 27, 28, 29, 30, 31, 32, 33, 34, 35, 36, 37, 38, 39, 40, 41, 42, 43, 44, 45, 46, 47, 48, 49, 50, 51, 52, 53, 54, 55, 56, 57, 58, 59, 60, 61, 62, 63, 64, 65, 66, 67, 68, 69, 70, 71, 72, 73, 74, 75] (by decide +kernel) (by decide +kernel)
set_option maxRecDepth 20000 in
theorem gX5_ifWelded_X5_upIfWelded : GoodIn wsX5_ifWelded (wsV RX5 133 RX5 yX5_upIfWelded wsX5_upIfWelded) := goodIn_app (goodIn_of _ (by decide +kernel)) ggX5_ifWelded_X5_upIfWelded
theorem dX5_ifWelded_0 : decode cX5_ifWelded 0 = .ok (.iload_n 1, 1) := by decide +kernel
theorem dX5_ifWelded_1 : decode cX5_ifWelded 1 = .ok (.invokestatic 80, 3) := by decide +kernel
theorem dX5_ifWelded_4 : decode cX5_ifWelded 4 = .ok (.ifCond .eq 10, 3) := by decide +kernel
theorem dX5_ifWelded_7 : decode cX5_ifWelded 7 = .ok (.iload_n 2, 1) := by decide +kernel
theorem dX5_ifWelded_8 : decode cX5_ifWelded 8 = .ok (.invokestatic 80, 3) := by decide +kernel
theorem dX5_ifWelded_11 : decode cX5_ifWelded 11 = .ok (.ifCond .ne 5, 3) := by decide +kernel
theorem dX5_ifWelded_14 : decode cX5_ifWelded 14 = .ok (.iconst (-1), 1) := by decide +kernel
theorem dX5_ifWelded_15 : decode cX5_ifWelded 15 = .ok (.ireturn, 1) := by decide +kernel
theorem dX5_ifWelded_16 : decode cX5_ifWelded 16 = .ok (.iload_n 1, 1) := by decide +kernel
theorem dX5_ifWelded_17 : decode cX5_ifWelded 17 = .ok (.iload_n 2, 1) := by decide +kernel
theorem dX5_ifWelded_18 : decode cX5_ifWelded 18 = .ok (.if_icmp .ne 8, 3) := by decide +kernel
theorem dX5_ifWelded_21 : decode cX5_ifWelded 21 = .ok (.bipush (-2), 2) := by decide +kernel
theorem dX5_ifWelded_23 : decode cX5_ifWelded 23 = .ok (.goto 9, 3) := by decide +kernel
theorem dX5_ifWelded_26 : decode cX5_ifWelded 26 = .ok (.aload_n 0, 1) := by decide +kernel
theorem dX5_ifWelded_27 : decode cX5_ifWelded 27 = .ok (.iload_n 1, 1) := by decide +kernel
theorem dX5_ifWelded_28 : decode cX5_ifWelded 28 = .ok (.iload_n 2, 1) := by decide +kernel
theorem dX5_ifWelded_29 : decode cX5_ifWelded 29 = .ok (.invokevirtual 133, 3) := by decide +kernel
theorem dX5_ifWelded_32 : decode cX5_ifWelded 32 = .ok (.ireturn, 1) := by decide +kernel
set_option maxRecDepth 20000 in
theorem ggX5_unsafe_X5_isRelay : GoodIn wsX5_unsafe wsX5_isRelay := goodIn_r _ [4, 5, 6, 3, 7] (by decide +kernel) (by decide +kernel)
set_option maxRecDepth 20000 in
theorem gX5_unsafe_X5_isRelay : GoodIn wsX5_unsafe (va_wsS RX5 80 yX5_isRelay wsX5_isRelay) := goodIn_app (goodIn_of _ (by decide +kernel)) ggX5_unsafe_X5_isRelay
set_option maxRecDepth 20000 in
theorem ggX5_unsafe_X5_upIfWelded : GoodIn wsX5_unsafe wsX5_upIfWelded := goodIn_r _ [11, 12, 13, 14, 15, 3, 16, 17, 18, 19, 20, 21, 22, 23, 24, 25, 26, 27, 28, 29, 30, 31, 32, 33, 34, 35, 36, 37, 38, 39, 40, 41, 42, 43, 44, 45, 46, 47, 48, 49, 50, 51, 52, 53, 54, 55, 56, 57, 58, 59, 60, 61, 62, 63, 64, 65, 66, 67, 68, 69, 70, 71, 72, 73, 74, 75] (by decide +kernel) (by decide +kernel)
set_option maxRecDepth 20000 in
theorem gX5_unsafe_X5_upIfWelded : GoodIn wsX5_unsafe (wsV RX5 133 RX5 yX5_upIfWelded wsX5_upIfWelded) := goodIn_app (goodIn_of _ (by decide +kernel)) ggX5_unsafe_X5_upIfWelded
theorem dX5_unsafe_0 : decode cX5_unsafe 0 = .ok (.iload_n 1, 1) := by decide +kernel
theorem dX5_unsafe_1 : decode cX5_unsafe 1 = .ok (.invokestatic 80, 3) := by decide +kernel
theorem dX5_unsafe_4 : decode cX5_unsafe 4 = .ok (.ifCond .ne 5, 3) := by decide +kernel
theorem dX5_unsafe_7 : decode cX5_unsafe 7 = .ok (.iconst (-1), 1) := by decide +kernel
theorem dX5_unsafe_8 : decode cX5_unsafe 8 = .ok (.ireturn, 1) := by decide +kernel
theorem dX5_unsafe_9 : decode cX5_unsafe 9 = .ok (.iconst 0, 1) := by decide +kernel
theorem dX5_unsafe_10 : decode cX5_unsafe 10 = .ok (.istore_n 2, 1) := by decide +kernel
theorem dX5_unsafe_11 : decode cX5_unsafe 11 = .ok (.iconst 0, 1) := by decide +kernel
theorem dX5_unsafe_12 : decode cX5_unsafe 12 = .ok (.istore_n 3, 1) := by decide +kernel
theorem dX5_unsafe_13 : decode cX5_unsafe 13 = .ok (.iload_n 3, 1) := by decide +kernel
theorem dX5_unsafe_14 : decode cX5_unsafe 14 = .ok (.bipush 10, 2) := by decide +kernel
theorem dX5_unsafe_16 : decode cX5_unsafe 16 = .ok (.if_icmp .ge 34, 3) := by decide +kernel
theorem dX5_unsafe_19 : decode cX5_unsafe 19 = .ok (.iload_n 2, 1) := by decide +kernel
theorem dX5_unsafe_20 : decode cX5_unsafe 20 = .ok (.iload_n 3, 1) := by decide +kernel
theorem dX5_unsafe_21 : decode cX5_unsafe 21 = .ok (.iload_n 1, 1) := by decide +kernel
theorem dX5_unsafe_22 : decode cX5_unsafe 22 = .ok (.if_icmp .eq 19, 3) := by decide +kernel
theorem dX5_unsafe_25 : decode cX5_unsafe 25 = .ok (.aload_n 0, 1) := by decide +kernel
theorem dX5_unsafe_26 : decode cX5_unsafe 26 = .ok (.iload_n 1, 1) := by decide +kernel
theorem dX5_unsafe_27 : decode cX5_unsafe 27 = .ok (.iload_n 3, 1) := by decide +kernel
theorem dX5_unsafe_28 : decode cX5_unsafe 28 = .ok (.invokevirtual 133, 3) := by decide +kernel
theorem dX5_unsafe_31 : decode cX5_unsafe 31 = .ok (.iconst 1, 1) := by decide +kernel
theorem dX5_unsafe_32 : decode cX5_unsafe 32 = .ok (.if_icmp .ne 9, 3) := by decide +kernel
theorem dX5_unsafe_35 : decode cX5_unsafe 35 = .ok (.iconst 1, 1) := by decide +kernel
theorem dX5_unsafe_36 : decode cX5_unsafe 36 = .ok (.iload_n 3, 1) := by decide +kernel
theorem dX5_unsafe_37 : decode cX5_unsafe 37 = .ok (.ishl, 1) := by decide +kernel
theorem dX5_unsafe_38 : decode cX5_unsafe 38 = .ok (.goto 4, 3) := by decide +kernel
theorem dX5_unsafe_41 : decode cX5_unsafe 41 = .ok (.iconst 0, 1) := by decide +kernel
theorem dX5_unsafe_42 : decode cX5_unsafe 42 = .ok (.ior, 1) := by decide +kernel
theorem dX5_unsafe_43 : decode cX5_unsafe 43 = .ok (.istore_n 2, 1) := by decide +kernel
theorem dX5_unsafe_44 : decode cX5_unsafe 44 = .ok (.iinc 3 1, 3) := by decide +kernel
theorem dX5_unsafe_47 : decode cX5_unsafe 47 = .ok (.goto (-34), 3) := by decide +kernel
theorem dX5_unsafe_50 : decode cX5_unsafe 50 = .ok (.iload_n 2, 1) := by decide +kernel
theorem dX5_unsafe_51 : decode cX5_unsafe 51 = .ok (.ireturn, 1) := by decide +kernel
theorem dX5_bits_0 : decode cX5_bits 0 = .ok (.iconst 0, 1) := by decide +kernel
theorem dX5_bits_1 : decode cX5_bits 1 = .ok (.istore_n 1, 1) := by decide +kernel
theorem dX5_bits_2 : decode cX5_bits 2 = .ok (.iconst 0, 1) := by decide +kernel
theorem dX5_bits_3 : decode cX5_bits 3 = .ok (.istore_n 2, 1) := by decide +kernel
theorem dX5_bits_4 : decode cX5_bits 4 = .ok (.iload_n 2, 1) := by decide +kernel
theorem dX5_bits_5 : decode cX5_bits 5 = .ok (.bipush 6, 2) := by decide +kernel
theorem dX5_bits_7 : decode cX5_bits 7 = .ok (.if_icmp .ge 17, 3) := by decide +kernel
theorem dX5_bits_10 : decode cX5_bits 10 = .ok (.iload_n 1, 1) := by decide +kernel
theorem dX5_bits_11 : decode cX5_bits 11 = .ok (.iload_n 0, 1) := by decide +kernel
theorem dX5_bits_12 : decode cX5_bits 12 = .ok (.iload_n 2, 1) := by decide +kernel
theorem dX5_bits_13 : decode cX5_bits 13 = .ok (.ishr, 1) := by decide +kernel
theorem dX5_bits_14 : decode cX5_bits 14 = .ok (.iconst 1, 1) := by decide +kernel
theorem dX5_bits_15 : decode cX5_bits 15 = .ok (.iand, 1) := by decide +kernel
theorem dX5_bits_16 : decode cX5_bits 16 = .ok (.iadd, 1) := by decide +kernel
theorem dX5_bits_17 : decode cX5_bits 17 = .ok (.istore_n 1, 1) := by decide +kernel
theorem dX5_bits_18 : decode cX5_bits 18 = .ok (.iinc 2 1, 3) := by decide +kernel
theorem dX5_bits_21 : decode cX5_bits 21 = .ok (.goto (-17), 3) := by decide +kernel
theorem dX5_bits_24 : decode cX5_bits 24 = .ok (.iload_n 1, 1) := by decide +kernel
theorem dX5_bits_25 : decode cX5_bits 25 = .ok (.ireturn, 1) := by decide +kernel
set_option maxRecDepth 20000 in
theorem ggX5_reach_X5_isRelay : GoodIn wsX5_reach wsX5_isRelay := goodIn_r _ [6, 7, 8, 5, 9] (by decide +kernel) (by decide +kernel)
set_option maxRecDepth 20000 in
theorem gX5_reach_X5_isRelay : GoodIn wsX5_reach (va_wsS RX5 80 yX5_isRelay wsX5_isRelay) := goodIn_app (goodIn_of _ (by decide +kernel)) ggX5_reach_X5_isRelay
set_option maxRecDepth 20000 in
theorem ggX5_reach_X5_moves : GoodIn wsX5_reach wsX5_moves := goodIn_r _ [12] (by decide +kernel) (by decide +kernel)
set_option maxRecDepth 20000 in
theorem gX5_reach_X5_moves : GoodIn wsX5_reach (va_wsS RX5 39 yX5_moves wsX5_moves) := goodIn_app (goodIn_of _ (by decide +kernel)) ggX5_reach_X5_moves
set_option maxRecDepth 20000 in
theorem ggX5_reach_X5_restWith : GoodIn wsX5_reach wsX5_restWith := goodIn_r _ [16, 1, 2, 17, 18, 19, 5, 20, 21, 22, 23, 24, 25, 26, 27, 28, 29, 30, 31, 32, 33, 34, 35, 36, 37, 38, 39, 40, 41, 42, 43, 44, 45, 46, 47, 48, 49, 50, 51, 52, 53, 54, 55, 56, 57, 58, 59, 10, 11, 12, 63, 64, 65, 66, 67, 68, 69, 70, 71, 72, 73, 74] (by decide +kernel) (by decide +kernel)
set_option maxRecDepth 20000 in
theorem gX5_reach_X5_restWith : GoodIn wsX5_reach (wsV RX5 130 RX5 yX5_restWith wsX5_restWith) := goodIn_app (goodIn_of _ (by decide +kernel)) ggX5_reach_X5_restWith
set_option maxRecDepth 20000 in
theorem ggX5_reach_X5_has : GoodIn wsX5_reach wsX5_has := goodIn_r _ [51] (by decide +kernel) (by decide +kernel)
set_option maxRecDepth 20000 in
theorem gX5_reach_X5_has : GoodIn wsX5_reach (va_wsS RX5 67 yX5_has wsX5_has) := goodIn_app (goodIn_of _ (by decide +kernel)) ggX5_reach_X5_has
set_option maxRecDepth 20000 in
theorem ggX5_reach_X5_bits : GoodIn wsX5_reach wsX5_bits := goodIn_r _ [62] (by decide +kernel) (by decide +kernel)
set_option maxRecDepth 20000 in
theorem gX5_reach_X5_bits : GoodIn wsX5_reach (va_wsS RX5 136 yX5_bits wsX5_bits) := goodIn_app (goodIn_of _ (by decide +kernel)) ggX5_reach_X5_bits
theorem dX5_reach_0 : decode cX5_reach 0 = .ok (.iload_n 1, 1) := by decide +kernel
theorem dX5_reach_1 : decode cX5_reach 1 = .ok (.invokestatic 80, 3) := by decide +kernel
theorem dX5_reach_4 : decode cX5_reach 4 = .ok (.ifCond .ne 5, 3) := by decide +kernel
theorem dX5_reach_7 : decode cX5_reach 7 = .ok (.iconst (-1), 1) := by decide +kernel
theorem dX5_reach_8 : decode cX5_reach 8 = .ok (.ireturn, 1) := by decide +kernel
theorem dX5_reach_9 : decode cX5_reach 9 = .ok (.bipush (-6), 2) := by decide +kernel
theorem dX5_reach_11 : decode cX5_reach 11 = .ok (.istore_n 2, 1) := by decide +kernel
theorem dX5_reach_12 : decode cX5_reach 12 = .ok (.bipush 63, 2) := by decide +kernel
theorem dX5_reach_14 : decode cX5_reach 14 = .ok (.istore_n 3, 1) := by decide +kernel
theorem dX5_reach_15 : decode cX5_reach 15 = .ok (.iload_n 3, 1) := by decide +kernel
theorem dX5_reach_16 : decode cX5_reach 16 = .ok (.ifCond .lt 81, 3) := by decide +kernel
theorem dX5_reach_19 : decode cX5_reach 19 = .ok (.aload_n 0, 1) := by decide +kernel
theorem dX5_reach_20 : decode cX5_reach 20 = .ok (.getfield 7, 3) := by decide +kernel
theorem dX5_reach_23 : decode cX5_reach 23 = .ok (.iconst 0, 1) := by decide +kernel
theorem dX5_reach_24 : decode cX5_reach 24 = .ok (.aload_n 0, 1) := by decide +kernel
theorem dX5_reach_25 : decode cX5_reach 25 = .ok (.getfield 13, 3) := by decide +kernel
theorem dX5_reach_28 : decode cX5_reach 28 = .ok (.iconst 0, 1) := by decide +kernel
theorem dX5_reach_29 : decode cX5_reach 29 = .ok (.invokestatic 39, 3) := by decide +kernel
theorem dX5_reach_32 : decode cX5_reach 32 = .ok (.aload_n 0, 1) := by decide +kernel
theorem dX5_reach_33 : decode cX5_reach 33 = .ok (.iload_n 3, 1) := by decide +kernel
theorem dX5_reach_34 : decode cX5_reach 34 = .ok (.iconst 0, 1) := by decide +kernel
theorem dX5_reach_35 : decode cX5_reach 35 = .ok (.invokevirtual 130, 3) := by decide +kernel
theorem dX5_reach_38 : decode cX5_reach 38 = .ok (.istore 4, 2) := by decide +kernel
theorem dX5_reach_40 : decode cX5_reach 40 = .ok (.iload 4, 2) := by decide +kernel
theorem dX5_reach_42 : decode cX5_reach 42 = .ok (.bipush (-6), 2) := by decide +kernel
theorem dX5_reach_44 : decode cX5_reach 44 = .ok (.if_icmp .eq 33, 3) := by decide +kernel
theorem dX5_reach_47 : decode cX5_reach 47 = .ok (.iload 4, 2) := by decide +kernel
theorem dX5_reach_49 : decode cX5_reach 49 = .ok (.iload_n 1, 1) := by decide +kernel
theorem dX5_reach_50 : decode cX5_reach 50 = .ok (.invokestatic 67, 3) := by decide +kernel
theorem dX5_reach_53 : decode cX5_reach 53 = .ok (.ifCond .eq 24, 3) := by decide +kernel
theorem dX5_reach_56 : decode cX5_reach 56 = .ok (.iload_n 2, 1) := by decide +kernel
theorem dX5_reach_57 : decode cX5_reach 57 = .ok (.bipush (-6), 2) := by decide +kernel
theorem dX5_reach_59 : decode cX5_reach 59 = .ok (.if_icmp .eq 14, 3) := by decide +kernel
theorem dX5_reach_62 : decode cX5_reach 62 = .ok (.iload_n 3, 1) := by decide +kernel
theorem dX5_reach_63 : decode cX5_reach 63 = .ok (.invokestatic 136, 3) := by decide +kernel
theorem dX5_reach_66 : decode cX5_reach 66 = .ok (.iload_n 2, 1) := by decide +kernel
theorem dX5_reach_67 : decode cX5_reach 67 = .ok (.invokestatic 136, 3) := by decide +kernel
theorem dX5_reach_70 : decode cX5_reach 70 = .ok (.if_icmp .gt 7, 3) := by decide +kernel
theorem dX5_reach_73 : decode cX5_reach 73 = .ok (.iconst 1, 1) := by decide +kernel
theorem dX5_reach_74 : decode cX5_reach 74 = .ok (.goto 4, 3) := by decide +kernel
theorem dX5_reach_77 : decode cX5_reach 77 = .ok (.iconst 0, 1) := by decide +kernel
theorem dX5_reach_78 : decode cX5_reach 78 = .ok (.istore 5, 2) := by decide +kernel
theorem dX5_reach_80 : decode cX5_reach 80 = .ok (.iload 5, 2) := by decide +kernel
theorem dX5_reach_82 : decode cX5_reach 82 = .ok (.ifCond .eq 7, 3) := by decide +kernel
theorem dX5_reach_85 : decode cX5_reach 85 = .ok (.iload_n 3, 1) := by decide +kernel
theorem dX5_reach_86 : decode cX5_reach 86 = .ok (.goto 4, 3) := by decide +kernel
theorem dX5_reach_89 : decode cX5_reach 89 = .ok (.iload_n 2, 1) := by decide +kernel
theorem dX5_reach_90 : decode cX5_reach 90 = .ok (.istore_n 2, 1) := by decide +kernel
theorem dX5_reach_91 : decode cX5_reach 91 = .ok (.iinc 3 (-1), 3) := by decide +kernel
theorem dX5_reach_94 : decode cX5_reach 94 = .ok (.goto (-79), 3) := by decide +kernel
theorem dX5_reach_97 : decode cX5_reach 97 = .ok (.iload_n 2, 1) := by decide +kernel
theorem dX5_reach_98 : decode cX5_reach 98 = .ok (.ireturn, 1) := by decide +kernel
set_option maxRecDepth 20000 in
theorem ggX5_put_X5_within : GoodIn wsX5_put wsX5_within := goodIn_r _ [7] (by decide +kernel) (by decide +kernel)
set_option maxRecDepth 20000 in
theorem gX5_put_X5_within : GoodIn wsX5_put (va_wsS RX5 43 yX5_within wsX5_within) := goodIn_app (goodIn_of _ (by decide +kernel)) ggX5_put_X5_within
theorem dX5_put_0 : decode cX5_put 0 = .ok (.iconst 0, 1) := by decide +kernel
theorem dX5_put_1 : decode cX5_put 1 = .ok (.istore_n 3, 1) := by decide +kernel
theorem dX5_put_2 : decode cX5_put 2 = .ok (.lload_n 1, 1) := by decide +kernel
theorem dX5_put_3 : decode cX5_put 3 = .ok (.lstore 4, 2) := by decide +kernel
theorem dX5_put_5 : decode cX5_put 5 = .ok (.iconst 1, 1) := by decide +kernel
theorem dX5_put_6 : decode cX5_put 6 = .ok (.istore 6, 2) := by decide +kernel
theorem dX5_put_8 : decode cX5_put 8 = .ok (.iload_n 3, 1) := by decide +kernel
theorem dX5_put_9 : decode cX5_put 9 = .ok (.bipush 8, 2) := by decide +kernel
theorem dX5_put_11 : decode cX5_put 11 = .ok (.if_icmp .ge 56, 3) := by decide +kernel
theorem dX5_put_14 : decode cX5_put 14 = .ok (.lload 4, 2) := by decide +kernel
theorem dX5_put_16 : decode cX5_put 16 = .ok (.ldc2_w 139, 3) := by decide +kernel
theorem dX5_put_19 : decode cX5_put 19 = .ok (.land, 1) := by decide +kernel
theorem dX5_put_20 : decode cX5_put 20 = .ok (.lconst 0, 1) := by decide +kernel
theorem dX5_put_21 : decode cX5_put 21 = .ok (.lcmp, 1) := by decide +kernel
theorem dX5_put_22 : decode cX5_put 22 = .ok (.ifCond .eq 45, 3) := by decide +kernel
theorem dX5_put_25 : decode cX5_put 25 = .ok (.iload 6, 2) := by decide +kernel
theorem dX5_put_27 : decode cX5_put 27 = .ok (.ifCond .eq 24, 3) := by decide +kernel
theorem dX5_put_30 : decode cX5_put 30 = .ok (.lload 4, 2) := by decide +kernel
theorem dX5_put_32 : decode cX5_put 32 = .ok (.ldc2_w 139, 3) := by decide +kernel
theorem dX5_put_35 : decode cX5_put 35 = .ok (.land, 1) := by decide +kernel
theorem dX5_put_36 : decode cX5_put 36 = .ok (.l2i, 1) := by decide +kernel
theorem dX5_put_37 : decode cX5_put 37 = .ok (.bipush 33, 2) := by decide +kernel
theorem dX5_put_39 : decode cX5_put 39 = .ok (.bipush 126, 2) := by decide +kernel
theorem dX5_put_41 : decode cX5_put 41 = .ok (.invokestatic 43, 3) := by decide +kernel
theorem dX5_put_44 : decode cX5_put 44 = .ok (.ifCond .eq 7, 3) := by decide +kernel
theorem dX5_put_47 : decode cX5_put 47 = .ok (.iconst 1, 1) := by decide +kernel
theorem dX5_put_48 : decode cX5_put 48 = .ok (.goto 4, 3) := by decide +kernel
theorem dX5_put_51 : decode cX5_put 51 = .ok (.iconst 0, 1) := by decide +kernel
theorem dX5_put_52 : decode cX5_put 52 = .ok (.istore 6, 2) := by decide +kernel
theorem dX5_put_54 : decode cX5_put 54 = .ok (.lload 4, 2) := by decide +kernel
theorem dX5_put_56 : decode cX5_put 56 = .ok (.bipush 8, 2) := by decide +kernel
theorem dX5_put_58 : decode cX5_put 58 = .ok (.lushr, 1) := by decide +kernel
theorem dX5_put_59 : decode cX5_put 59 = .ok (.lstore 4, 2) := by decide +kernel
theorem dX5_put_61 : decode cX5_put 61 = .ok (.iinc 3 1, 3) := by decide +kernel
theorem dX5_put_64 : decode cX5_put 64 = .ok (.goto (-56), 3) := by decide +kernel
theorem dX5_put_67 : decode cX5_put 67 = .ok (.iload_n 3, 1) := by decide +kernel
theorem dX5_put_68 : decode cX5_put 68 = .ok (.ifCond .eq 15, 3) := by decide +kernel
theorem dX5_put_71 : decode cX5_put 71 = .ok (.iload 6, 2) := by decide +kernel
theorem dX5_put_73 : decode cX5_put 73 = .ok (.ifCond .eq 10, 3) := by decide +kernel
theorem dX5_put_76 : decode cX5_put 76 = .ok (.lload 4, 2) := by decide +kernel
theorem dX5_put_78 : decode cX5_put 78 = .ok (.lconst 0, 1) := by decide +kernel
theorem dX5_put_79 : decode cX5_put 79 = .ok (.lcmp, 1) := by decide +kernel
theorem dX5_put_80 : decode cX5_put 80 = .ok (.ifCond .eq 6, 3) := by decide +kernel
theorem dX5_put_83 : decode cX5_put 83 = .ok (.bipush (-2), 2) := by decide +kernel
theorem dX5_put_85 : decode cX5_put 85 = .ok (.ireturn, 1) := by decide +kernel
theorem dX5_put_86 : decode cX5_put 86 = .ok (.aload_n 0, 1) := by decide +kernel
theorem dX5_put_87 : decode cX5_put 87 = .ok (.getfield 92, 3) := by decide +kernel
theorem dX5_put_90 : decode cX5_put 90 = .ok (.iload_n 3, 1) := by decide +kernel
theorem dX5_put_91 : decode cX5_put 91 = .ok (.iadd, 1) := by decide +kernel
theorem dX5_put_92 : decode cX5_put 92 = .ok (.bipush 64, 2) := by decide +kernel
theorem dX5_put_94 : decode cX5_put 94 = .ok (.if_icmp .le 6, 3) := by decide +kernel
theorem dX5_put_97 : decode cX5_put 97 = .ok (.bipush (-4), 2) := by decide +kernel
theorem dX5_put_99 : decode cX5_put 99 = .ok (.ireturn, 1) := by decide +kernel
theorem dX5_put_100 : decode cX5_put 100 = .ok (.iload_n 3, 1) := by decide +kernel
theorem dX5_put_101 : decode cX5_put 101 = .ok (.iconst 1, 1) := by decide +kernel
theorem dX5_put_102 : decode cX5_put 102 = .ok (.isub, 1) := by decide +kernel
theorem dX5_put_103 : decode cX5_put 103 = .ok (.istore 7, 2) := by decide +kernel
theorem dX5_put_105 : decode cX5_put 105 = .ok (.iload 7, 2) := by decide +kernel
theorem dX5_put_107 : decode cX5_put 107 = .ok (.ifCond .lt 40, 3) := by decide +kernel
theorem dX5_put_110 : decode cX5_put 110 = .ok (.aload_n 0, 1) := by decide +kernel
theorem dX5_put_111 : decode cX5_put 111 = .ok (.getfield 25, 3) := by decide +kernel
theorem dX5_put_114 : decode cX5_put 114 = .ok (.aload_n 0, 1) := by decide +kernel
theorem dX5_put_115 : decode cX5_put 115 = .ok (.getfield 92, 3) := by decide +kernel
theorem dX5_put_118 : decode cX5_put 118 = .ok (.lload_n 1, 1) := by decide +kernel
theorem dX5_put_119 : decode cX5_put 119 = .ok (.bipush 8, 2) := by decide +kernel
theorem dX5_put_121 : decode cX5_put 121 = .ok (.iload 7, 2) := by decide +kernel
theorem dX5_put_123 : decode cX5_put 123 = .ok (.imul, 1) := by decide +kernel
theorem dX5_put_124 : decode cX5_put 124 = .ok (.lushr, 1) := by decide +kernel
theorem dX5_put_125 : decode cX5_put 125 = .ok (.ldc2_w 139, 3) := by decide +kernel
theorem dX5_put_128 : decode cX5_put 128 = .ok (.land, 1) := by decide +kernel
theorem dX5_put_129 : decode cX5_put 129 = .ok (.l2i, 1) := by decide +kernel
theorem dX5_put_130 : decode cX5_put 130 = .ok (.iastore, 1) := by decide +kernel
theorem dX5_put_131 : decode cX5_put 131 = .ok (.aload_n 0, 1) := by decide +kernel
theorem dX5_put_132 : decode cX5_put 132 = .ok (.dup, 1) := by decide +kernel
theorem dX5_put_133 : decode cX5_put 133 = .ok (.getfield 92, 3) := by decide +kernel
theorem dX5_put_136 : decode cX5_put 136 = .ok (.iconst 1, 1) := by decide +kernel
theorem dX5_put_137 : decode cX5_put 137 = .ok (.iadd, 1) := by decide +kernel
theorem dX5_put_138 : decode cX5_put 138 = .ok (.putfield 92, 3) := by decide +kernel
theorem dX5_put_141 : decode cX5_put 141 = .ok (.iinc 7 (-1), 3) := by decide +kernel
theorem dX5_put_144 : decode cX5_put 144 = .ok (.goto (-39), 3) := by decide +kernel
theorem dX5_put_147 : decode cX5_put 147 = .ok (.aload_n 0, 1) := by decide +kernel
theorem dX5_put_148 : decode cX5_put 148 = .ok (.getfield 92, 3) := by decide +kernel
theorem dX5_put_151 : decode cX5_put 151 = .ok (.ireturn, 1) := by decide +kernel
theorem dX5_wipe_0 : decode cX5_wipe 0 = .ok (.aload_n 0, 1) := by decide +kernel
theorem dX5_wipe_1 : decode cX5_wipe 1 = .ok (.getfield 92, 3) := by decide +kernel
theorem dX5_wipe_4 : decode cX5_wipe 4 = .ok (.istore_n 1, 1) := by decide +kernel
theorem dX5_wipe_5 : decode cX5_wipe 5 = .ok (.aload_n 0, 1) := by decide +kernel
theorem dX5_wipe_6 : decode cX5_wipe 6 = .ok (.iconst 0, 1) := by decide +kernel
theorem dX5_wipe_7 : decode cX5_wipe 7 = .ok (.putfield 92, 3) := by decide +kernel
theorem dX5_wipe_10 : decode cX5_wipe 10 = .ok (.iload_n 1, 1) := by decide +kernel
theorem dX5_wipe_11 : decode cX5_wipe 11 = .ok (.ireturn, 1) := by decide +kernel
theorem dX5_character_0 : decode cX5_character 0 = .ok (.iload_n 1, 1) := by decide +kernel
theorem dX5_character_1 : decode cX5_character 1 = .ok (.aload_n 0, 1) := by decide +kernel
theorem dX5_character_2 : decode cX5_character 2 = .ok (.getfield 92, 3) := by decide +kernel
theorem dX5_character_5 : decode cX5_character 5 = .ok (.if_icmp .ge 12, 3) := by decide +kernel
theorem dX5_character_8 : decode cX5_character 8 = .ok (.aload_n 0, 1) := by decide +kernel
theorem dX5_character_9 : decode cX5_character 9 = .ok (.getfield 25, 3) := by decide +kernel
theorem dX5_character_12 : decode cX5_character 12 = .ok (.iload_n 1, 1) := by decide +kernel
theorem dX5_character_13 : decode cX5_character 13 = .ok (.iaload, 1) := by decide +kernel
theorem dX5_character_14 : decode cX5_character 14 = .ok (.goto 4, 3) := by decide +kernel
theorem dX5_character_17 : decode cX5_character 17 = .ok (.iconst (-1), 1) := by decide +kernel
theorem dX5_character_18 : decode cX5_character 18 = .ok (.ireturn, 1) := by decide +kernel
set_option maxRecDepth 20000 in
theorem ggX5_isNext_X5_character : GoodIn wsX5_isNext wsX5_character := goodIn_r _ [6, 7, 8, 9, 10, 11, 12, 13, 14, 15, 16, 17, 18, 19, 20] (by decide +kernel) (by decide +kernel)
set_option maxRecDepth 20000 in
theorem gX5_isNext_X5_character : GoodIn wsX5_isNext (wsV RX5 141 RX5 yX5_character wsX5_character) := goodIn_app (goodIn_of _ (by decide +kernel)) ggX5_isNext_X5_character
theorem dX5_isNext_0 : decode cX5_isNext 0 = .ok (.aload_n 0, 1) := by decide +kernel
theorem dX5_isNext_1 : decode cX5_isNext 1 = .ok (.aload_n 0, 1) := by decide +kernel
theorem dX5_isNext_2 : decode cX5_isNext 2 = .ok (.getfield 89, 3) := by decide +kernel
theorem dX5_isNext_5 : decode cX5_isNext 5 = .ok (.invokevirtual 141, 3) := by decide +kernel
theorem dX5_isNext_8 : decode cX5_isNext 8 = .ok (.iload_n 1, 1) := by decide +kernel
theorem dX5_isNext_9 : decode cX5_isNext 9 = .ok (.if_icmp .ne 7, 3) := by decide +kernel
theorem dX5_isNext_12 : decode cX5_isNext 12 = .ok (.iconst 1, 1) := by decide +kernel
theorem dX5_isNext_13 : decode cX5_isNext 13 = .ok (.goto 4, 3) := by decide +kernel
theorem dX5_isNext_16 : decode cX5_isNext 16 = .ok (.iconst 0, 1) := by decide +kernel
theorem dX5_isNext_17 : decode cX5_isNext 17 = .ok (.istore_n 2, 1) := by decide +kernel
theorem dX5_isNext_18 : decode cX5_isNext 18 = .ok (.aload_n 0, 1) := by decide +kernel
theorem dX5_isNext_19 : decode cX5_isNext 19 = .ok (.dup, 1) := by decide +kernel
theorem dX5_isNext_20 : decode cX5_isNext 20 = .ok (.getfield 89, 3) := by decide +kernel
theorem dX5_isNext_23 : decode cX5_isNext 23 = .ok (.iload_n 2, 1) := by decide +kernel
theorem dX5_isNext_24 : decode cX5_isNext 24 = .ok (.ifCond .eq 7, 3) := by decide +kernel
theorem dX5_isNext_27 : decode cX5_isNext 27 = .ok (.iconst 1, 1) := by decide +kernel
theorem dX5_isNext_28 : decode cX5_isNext 28 = .ok (.goto 4, 3) := by decide +kernel
theorem dX5_isNext_31 : decode cX5_isNext 31 = .ok (.iconst 0, 1) := by decide +kernel
theorem dX5_isNext_32 : decode cX5_isNext 32 = .ok (.iadd, 1) := by decide +kernel
theorem dX5_isNext_33 : decode cX5_isNext 33 = .ok (.putfield 89, 3) := by decide +kernel
theorem dX5_isNext_36 : decode cX5_isNext 36 = .ok (.iload_n 2, 1) := by decide +kernel
theorem dX5_isNext_37 : decode cX5_isNext 37 = .ok (.ireturn, 1) := by decide +kernel
set_option maxRecDepth 20000 in
theorem ggX5_contactOf_X5_within : GoodIn wsX5_contactOf wsX5_within := goodIn_r _ [4] (by decide +kernel) (by decide +kernel)
set_option maxRecDepth 20000 in
theorem gX5_contactOf_X5_within : GoodIn wsX5_contactOf (va_wsS RX5 43 yX5_within wsX5_within) := goodIn_app (goodIn_of _ (by decide +kernel)) ggX5_contactOf_X5_within
theorem dX5_contactOf_0 : decode cX5_contactOf 0 = .ok (.iload_n 0, 1) := by decide +kernel
theorem dX5_contactOf_1 : decode cX5_contactOf 1 = .ok (.bipush 65, 2) := by decide +kernel
theorem dX5_contactOf_3 : decode cX5_contactOf 3 = .ok (.bipush 74, 2) := by decide +kernel
theorem dX5_contactOf_5 : decode cX5_contactOf 5 = .ok (.invokestatic 43, 3) := by decide +kernel
theorem dX5_contactOf_8 : decode cX5_contactOf 8 = .ok (.ifCond .eq 10, 3) := by decide +kernel
theorem dX5_contactOf_11 : decode cX5_contactOf 11 = .ok (.iload_n 0, 1) := by decide +kernel
theorem dX5_contactOf_12 : decode cX5_contactOf 12 = .ok (.bipush 65, 2) := by decide +kernel
theorem dX5_contactOf_14 : decode cX5_contactOf 14 = .ok (.isub, 1) := by decide +kernel
theorem dX5_contactOf_15 : decode cX5_contactOf 15 = .ok (.goto 25, 3) := by decide +kernel
theorem dX5_contactOf_18 : decode cX5_contactOf 18 = .ok (.iload_n 0, 1) := by decide +kernel
theorem dX5_contactOf_19 : decode cX5_contactOf 19 = .ok (.bipush 97, 2) := by decide +kernel
theorem dX5_contactOf_21 : decode cX5_contactOf 21 = .ok (.bipush 102, 2) := by decide +kernel
theorem dX5_contactOf_23 : decode cX5_contactOf 23 = .ok (.invokestatic 43, 3) := by decide +kernel
theorem dX5_contactOf_26 : decode cX5_contactOf 26 = .ok (.ifCond .eq 13, 3) := by decide +kernel
theorem dX5_contactOf_29 : decode cX5_contactOf 29 = .ok (.bipush 10, 2) := by decide +kernel
theorem dX5_contactOf_31 : decode cX5_contactOf 31 = .ok (.iload_n 0, 1) := by decide +kernel
theorem dX5_contactOf_32 : decode cX5_contactOf 32 = .ok (.iadd, 1) := by decide +kernel
theorem dX5_contactOf_33 : decode cX5_contactOf 33 = .ok (.bipush 97, 2) := by decide +kernel
theorem dX5_contactOf_35 : decode cX5_contactOf 35 = .ok (.isub, 1) := by decide +kernel
theorem dX5_contactOf_36 : decode cX5_contactOf 36 = .ok (.goto 4, 3) := by decide +kernel
theorem dX5_contactOf_39 : decode cX5_contactOf 39 = .ok (.iconst (-1), 1) := by decide +kernel
theorem dX5_contactOf_40 : decode cX5_contactOf 40 = .ok (.ireturn, 1) := by decide +kernel
set_option maxRecDepth 20000 in
theorem ggX5_readsBranch_X5_isNext : GoodIn wsX5_readsBranch wsX5_isNext := goodIn_r _ [8, 3, 9, 10, 11, 7, 12, 13, 14, 21, 22, 23, 24, 25, 26, 27, 28, 29, 30, 31, 32] (by decide +kernel) (by decide +kernel)
set_option maxRecDepth 20000 in
theorem gX5_readsBranch_X5_isNext : GoodIn wsX5_readsBranch (wsV RX5 99 RX5 yX5_isNext wsX5_isNext) := goodIn_app (goodIn_of _ (by decide +kernel)) ggX5_readsBranch_X5_isNext
set_option maxRecDepth 20000 in
theorem ggX5_readsBranch_X5_character : GoodIn wsX5_readsBranch wsX5_character := goodIn_r _ [12, 13, 14, 21, 22, 23, 24, 25, 26, 27, 28, 29, 30, 31, 32] (by decide +kernel) (by decide +kernel)
set_option maxRecDepth 20000 in
theorem gX5_readsBranch_X5_character : GoodIn wsX5_readsBranch (wsV RX5 141 RX5 yX5_character wsX5_character) := goodIn_app (goodIn_of _ (by decide +kernel)) ggX5_readsBranch_X5_character
set_option maxRecDepth 20000 in
theorem ggX5_readsBranch_X5_contactOf : GoodIn wsX5_readsBranch wsX5_contactOf := goodIn_r _ [17, 18, 19, 7, 20] (by decide +kernel) (by decide +kernel)
set_option maxRecDepth 20000 in
theorem gX5_readsBranch_X5_contactOf : GoodIn wsX5_readsBranch (va_wsS RX5 144 yX5_contactOf wsX5_contactOf) := goodIn_app (goodIn_of _ (by decide +kernel)) ggX5_readsBranch_X5_contactOf
theorem dX5_readsBranch_0 : decode cX5_readsBranch 0 = .ok (.iconst 3, 1) := by decide +kernel
theorem dX5_readsBranch_1 : decode cX5_readsBranch 1 = .ok (.aload_n 0, 1) := by decide +kernel
theorem dX5_readsBranch_2 : decode cX5_readsBranch 2 = .ok (.getfield 105, 3) := by decide +kernel
theorem dX5_readsBranch_5 : decode cX5_readsBranch 5 = .ok (.imul, 1) := by decide +kernel
theorem dX5_readsBranch_6 : decode cX5_readsBranch 6 = .ok (.istore_n 1, 1) := by decide +kernel
theorem dX5_readsBranch_7 : decode cX5_readsBranch 7 = .ok (.aload_n 0, 1) := by decide +kernel
theorem dX5_readsBranch_8 : decode cX5_readsBranch 8 = .ok (.getfield 28, 3) := by decide +kernel
theorem dX5_readsBranch_11 : decode cX5_readsBranch 11 = .ok (.iload_n 1, 1) := by decide +kernel
theorem dX5_readsBranch_12 : decode cX5_readsBranch 12 = .ok (.iconst 0, 1) := by decide +kernel
theorem dX5_readsBranch_13 : decode cX5_readsBranch 13 = .ok (.iastore, 1) := by decide +kernel
theorem dX5_readsBranch_14 : decode cX5_readsBranch 14 = .ok (.aload_n 0, 1) := by decide +kernel
theorem dX5_readsBranch_15 : decode cX5_readsBranch 15 = .ok (.getfield 28, 3) := by decide +kernel
theorem dX5_readsBranch_18 : decode cX5_readsBranch 18 = .ok (.iload_n 1, 1) := by decide +kernel
theorem dX5_readsBranch_19 : decode cX5_readsBranch 19 = .ok (.iconst 1, 1) := by decide +kernel
theorem dX5_readsBranch_20 : decode cX5_readsBranch 20 = .ok (.iadd, 1) := by decide +kernel
theorem dX5_readsBranch_21 : decode cX5_readsBranch 21 = .ok (.iconst 0, 1) := by decide +kernel
theorem dX5_readsBranch_22 : decode cX5_readsBranch 22 = .ok (.iastore, 1) := by decide +kernel
theorem dX5_readsBranch_23 : decode cX5_readsBranch 23 = .ok (.aload_n 0, 1) := by decide +kernel
theorem dX5_readsBranch_24 : decode cX5_readsBranch 24 = .ok (.getfield 28, 3) := by decide +kernel
theorem dX5_readsBranch_27 : decode cX5_readsBranch 27 = .ok (.iload_n 1, 1) := by decide +kernel
theorem dX5_readsBranch_28 : decode cX5_readsBranch 28 = .ok (.iconst 2, 1) := by decide +kernel
theorem dX5_readsBranch_29 : decode cX5_readsBranch 29 = .ok (.iadd, 1) := by decide +kernel
theorem dX5_readsBranch_30 : decode cX5_readsBranch 30 = .ok (.iconst 0, 1) := by decide +kernel
theorem dX5_readsBranch_31 : decode cX5_readsBranch 31 = .ok (.iastore, 1) := by decide +kernel
theorem dX5_readsBranch_32 : decode cX5_readsBranch 32 = .ok (.iconst 1, 1) := by decide +kernel
theorem dX5_readsBranch_33 : decode cX5_readsBranch 33 = .ok (.istore_n 2, 1) := by decide +kernel
theorem dX5_readsBranch_34 : decode cX5_readsBranch 34 = .ok (.iload_n 2, 1) := by decide +kernel
theorem dX5_readsBranch_35 : decode cX5_readsBranch 35 = .ok (.ifCond .eq 124, 3) := by decide +kernel
theorem dX5_readsBranch_38 : decode cX5_readsBranch 38 = .ok (.aload_n 0, 1) := by decide +kernel
theorem dX5_readsBranch_39 : decode cX5_readsBranch 39 = .ok (.bipush 33, 2) := by decide +kernel
theorem dX5_readsBranch_41 : decode cX5_readsBranch 41 = .ok (.invokevirtual 99, 3) := by decide +kernel
theorem dX5_readsBranch_44 : decode cX5_readsBranch 44 = .ok (.istore_n 3, 1) := by decide +kernel
theorem dX5_readsBranch_45 : decode cX5_readsBranch 45 = .ok (.aload_n 0, 1) := by decide +kernel
theorem dX5_readsBranch_46 : decode cX5_readsBranch 46 = .ok (.aload_n 0, 1) := by decide +kernel
theorem dX5_readsBranch_47 : decode cX5_readsBranch 47 = .ok (.getfield 89, 3) := by decide +kernel
theorem dX5_readsBranch_50 : decode cX5_readsBranch 50 = .ok (.invokevirtual 141, 3) := by decide +kernel
theorem dX5_readsBranch_53 : decode cX5_readsBranch 53 = .ok (.invokestatic 144, 3) := by decide +kernel
theorem dX5_readsBranch_56 : decode cX5_readsBranch 56 = .ok (.istore 4, 2) := by decide +kernel
theorem dX5_readsBranch_58 : decode cX5_readsBranch 58 = .ok (.iload 4, 2) := by decide +kernel
theorem dX5_readsBranch_60 : decode cX5_readsBranch 60 = .ok (.ifCond .ge 5, 3) := by decide +kernel
theorem dX5_readsBranch_63 : decode cX5_readsBranch 63 = .ok (.iconst 0, 1) := by decide +kernel
theorem dX5_readsBranch_64 : decode cX5_readsBranch 64 = .ok (.ireturn, 1) := by decide +kernel
theorem dX5_readsBranch_65 : decode cX5_readsBranch 65 = .ok (.aload_n 0, 1) := by decide +kernel
theorem dX5_readsBranch_66 : decode cX5_readsBranch 66 = .ok (.dup, 1) := by decide +kernel
theorem dX5_readsBranch_67 : decode cX5_readsBranch 67 = .ok (.getfield 89, 3) := by decide +kernel
theorem dX5_readsBranch_70 : decode cX5_readsBranch 70 = .ok (.iconst 1, 1) := by decide +kernel
theorem dX5_readsBranch_71 : decode cX5_readsBranch 71 = .ok (.iadd, 1) := by decide +kernel
theorem dX5_readsBranch_72 : decode cX5_readsBranch 72 = .ok (.putfield 89, 3) := by decide +kernel
theorem dX5_readsBranch_75 : decode cX5_readsBranch 75 = .ok (.aload_n 0, 1) := by decide +kernel
theorem dX5_readsBranch_76 : decode cX5_readsBranch 76 = .ok (.getfield 28, 3) := by decide +kernel
theorem dX5_readsBranch_79 : decode cX5_readsBranch 79 = .ok (.iload_n 1, 1) := by decide +kernel
theorem dX5_readsBranch_80 : decode cX5_readsBranch 80 = .ok (.iload_n 3, 1) := by decide +kernel
theorem dX5_readsBranch_81 : decode cX5_readsBranch 81 = .ok (.ifCond .eq 7, 3) := by decide +kernel
theorem dX5_readsBranch_84 : decode cX5_readsBranch 84 = .ok (.iconst 1, 1) := by decide +kernel
theorem dX5_readsBranch_85 : decode cX5_readsBranch 85 = .ok (.goto 4, 3) := by decide +kernel
theorem dX5_readsBranch_88 : decode cX5_readsBranch 88 = .ok (.iconst 0, 1) := by decide +kernel
theorem dX5_readsBranch_89 : decode cX5_readsBranch 89 = .ok (.iadd, 1) := by decide +kernel
theorem dX5_readsBranch_90 : decode cX5_readsBranch 90 = .ok (.dup2, 1) := by decide +kernel
theorem dX5_readsBranch_91 : decode cX5_readsBranch 91 = .ok (.iaload, 1) := by decide +kernel
theorem dX5_readsBranch_92 : decode cX5_readsBranch 92 = .ok (.iconst 1, 1) := by decide +kernel
theorem dX5_readsBranch_93 : decode cX5_readsBranch 93 = .ok (.iload 4, 2) := by decide +kernel
theorem dX5_readsBranch_95 : decode cX5_readsBranch 95 = .ok (.ishl, 1) := by decide +kernel
theorem dX5_readsBranch_96 : decode cX5_readsBranch 96 = .ok (.ior, 1) := by decide +kernel
theorem dX5_readsBranch_97 : decode cX5_readsBranch 97 = .ok (.iastore, 1) := by decide +kernel
theorem dX5_readsBranch_98 : decode cX5_readsBranch 98 = .ok (.aload_n 0, 1) := by decide +kernel
theorem dX5_readsBranch_99 : decode cX5_readsBranch 99 = .ok (.getfield 28, 3) := by decide +kernel
theorem dX5_readsBranch_102 : decode cX5_readsBranch 102 = .ok (.iload_n 1, 1) := by decide +kernel
theorem dX5_readsBranch_103 : decode cX5_readsBranch 103 = .ok (.iconst 2, 1) := by decide +kernel
theorem dX5_readsBranch_104 : decode cX5_readsBranch 104 = .ok (.iadd, 1) := by decide +kernel
theorem dX5_readsBranch_105 : decode cX5_readsBranch 105 = .ok (.dup2, 1) := by decide +kernel
theorem dX5_readsBranch_106 : decode cX5_readsBranch 106 = .ok (.iaload, 1) := by decide +kernel
theorem dX5_readsBranch_107 : decode cX5_readsBranch 107 = .ok (.iconst 1, 1) := by decide +kernel
theorem dX5_readsBranch_108 : decode cX5_readsBranch 108 = .ok (.iadd, 1) := by decide +kernel
theorem dX5_readsBranch_109 : decode cX5_readsBranch 109 = .ok (.iastore, 1) := by decide +kernel
theorem dX5_readsBranch_110 : decode cX5_readsBranch 110 = .ok (.aload_n 0, 1) := by decide +kernel
theorem dX5_readsBranch_111 : decode cX5_readsBranch 111 = .ok (.getfield 28, 3) := by decide +kernel
theorem dX5_readsBranch_114 : decode cX5_readsBranch 114 = .ok (.iload_n 1, 1) := by decide +kernel
theorem dX5_readsBranch_115 : decode cX5_readsBranch 115 = .ok (.iconst 2, 1) := by decide +kernel
theorem dX5_readsBranch_116 : decode cX5_readsBranch 116 = .ok (.iadd, 1) := by decide +kernel
theorem dX5_readsBranch_117 : decode cX5_readsBranch 117 = .ok (.iaload, 1) := by decide +kernel
theorem dX5_readsBranch_118 : decode cX5_readsBranch 118 = .ok (.bipush 8, 2) := by decide +kernel
theorem dX5_readsBranch_120 : decode cX5_readsBranch 120 = .ok (.if_icmp .ge 34, 3) := by decide +kernel
theorem dX5_readsBranch_123 : decode cX5_readsBranch 123 = .ok (.aload_n 0, 1) := by decide +kernel
theorem dX5_readsBranch_124 : decode cX5_readsBranch 124 = .ok (.aload_n 0, 1) := by decide +kernel
theorem dX5_readsBranch_125 : decode cX5_readsBranch 125 = .ok (.getfield 89, 3) := by decide +kernel
theorem dX5_readsBranch_128 : decode cX5_readsBranch 128 = .ok (.invokevirtual 141, 3) := by decide +kernel
theorem dX5_readsBranch_131 : decode cX5_readsBranch 131 = .ok (.bipush 33, 2) := by decide +kernel
theorem dX5_readsBranch_133 : decode cX5_readsBranch 133 = .ok (.if_icmp .eq 17, 3) := by decide +kernel
theorem dX5_readsBranch_136 : decode cX5_readsBranch 136 = .ok (.aload_n 0, 1) := by decide +kernel
theorem dX5_readsBranch_137 : decode cX5_readsBranch 137 = .ok (.aload_n 0, 1) := by decide +kernel
theorem dX5_readsBranch_138 : decode cX5_readsBranch 138 = .ok (.getfield 89, 3) := by decide +kernel
theorem dX5_readsBranch_141 : decode cX5_readsBranch 141 = .ok (.invokevirtual 141, 3) := by decide +kernel
theorem dX5_readsBranch_144 : decode cX5_readsBranch 144 = .ok (.invokestatic 144, 3) := by decide +kernel
theorem dX5_readsBranch_147 : decode cX5_readsBranch 147 = .ok (.ifCond .lt 7, 3) := by decide +kernel
theorem dX5_readsBranch_150 : decode cX5_readsBranch 150 = .ok (.iconst 1, 1) := by decide +kernel
theorem dX5_readsBranch_151 : decode cX5_readsBranch 151 = .ok (.goto 4, 3) := by decide +kernel
theorem dX5_readsBranch_154 : decode cX5_readsBranch 154 = .ok (.iconst 0, 1) := by decide +kernel
theorem dX5_readsBranch_155 : decode cX5_readsBranch 155 = .ok (.istore_n 2, 1) := by decide +kernel
theorem dX5_readsBranch_156 : decode cX5_readsBranch 156 = .ok (.goto (-122), 3) := by decide +kernel
theorem dX5_readsBranch_159 : decode cX5_readsBranch 159 = .ok (.aload_n 0, 1) := by decide +kernel
theorem dX5_readsBranch_160 : decode cX5_readsBranch 160 = .ok (.dup, 1) := by decide +kernel
theorem dX5_readsBranch_161 : decode cX5_readsBranch 161 = .ok (.getfield 105, 3) := by decide +kernel
theorem dX5_readsBranch_164 : decode cX5_readsBranch 164 = .ok (.iconst 1, 1) := by decide +kernel
theorem dX5_readsBranch_165 : decode cX5_readsBranch 165 = .ok (.iadd, 1) := by decide +kernel
theorem dX5_readsBranch_166 : decode cX5_readsBranch 166 = .ok (.putfield 105, 3) := by decide +kernel
theorem dX5_readsBranch_169 : decode cX5_readsBranch 169 = .ok (.iconst 1, 1) := by decide +kernel
theorem dX5_readsBranch_170 : decode cX5_readsBranch 170 = .ok (.ireturn, 1) := by decide +kernel
set_option maxRecDepth 20000 in
theorem ggX5_readsBranches_X5_readsBranch : GoodIn wsX5_readsBranches wsX5_readsBranch := goodIn_r _ [6, 1, 7, 8, 9, 10, 11, 5, 12, 13, 14, 15, 16, 17, 18, 19, 20, 21, 22, 23, 24, 25, 26, 27, 28, 29, 30, 31, 32, 33, 34, 35, 36] (by decide +kernel) (by decide +kernel)
set_option maxRecDepth 20000 in
theorem gX5_readsBranches_X5_readsBranch : GoodIn wsX5_readsBranches (wsV RX5 147 RX5 yX5_readsBranch wsX5_readsBranch) := goodIn_app (goodIn_of _ (by decide +kernel)) ggX5_readsBranches_X5_readsBranch
set_option maxRecDepth 20000 in
theorem ggX5_readsBranches_X5_isNext : GoodIn wsX5_readsBranches wsX5_isNext := goodIn_r _ [12, 8, 13, 14, 15, 5, 16, 17, 18, 25, 26, 27, 28, 29, 30, 31, 32, 33, 34, 35, 36] (by decide +kernel) (by decide +kernel)
set_option maxRecDepth 20000 in
theorem gX5_readsBranches_X5_isNext : GoodIn wsX5_readsBranches (wsV RX5 99 RX5 yX5_isNext wsX5_isNext) := goodIn_app (goodIn_of _ (by decide +kernel)) ggX5_readsBranches_X5_isNext
theorem dX5_readsBranches_0 : decode cX5_readsBranches 0 = .ok (.aload_n 0, 1) := by decide +kernel
theorem dX5_readsBranches_1 : decode cX5_readsBranches 1 = .ok (.invokevirtual 147, 3) := by decide +kernel
theorem dX5_readsBranches_4 : decode cX5_readsBranches 4 = .ok (.istore_n 1, 1) := by decide +kernel
theorem dX5_readsBranches_5 : decode cX5_readsBranches 5 = .ok (.iload_n 1, 1) := by decide +kernel
theorem dX5_readsBranches_6 : decode cX5_readsBranches 6 = .ok (.ifCond .eq 29, 3) := by decide +kernel
theorem dX5_readsBranches_9 : decode cX5_readsBranches 9 = .ok (.aload_n 0, 1) := by decide +kernel
theorem dX5_readsBranches_10 : decode cX5_readsBranches 10 = .ok (.getfield 105, 3) := by decide +kernel
theorem dX5_readsBranches_13 : decode cX5_readsBranches 13 = .ok (.bipush 6, 2) := by decide +kernel
theorem dX5_readsBranches_15 : decode cX5_readsBranches 15 = .ok (.if_icmp .ge 20, 3) := by decide +kernel
theorem dX5_readsBranches_18 : decode cX5_readsBranches 18 = .ok (.aload_n 0, 1) := by decide +kernel
theorem dX5_readsBranches_19 : decode cX5_readsBranches 19 = .ok (.bipush 43, 2) := by decide +kernel
theorem dX5_readsBranches_21 : decode cX5_readsBranches 21 = .ok (.invokevirtual 99, 3) := by decide +kernel
theorem dX5_readsBranches_24 : decode cX5_readsBranches 24 = .ok (.ifCond .eq 11, 3) := by decide +kernel
theorem dX5_readsBranches_27 : decode cX5_readsBranches 27 = .ok (.aload_n 0, 1) := by decide +kernel
theorem dX5_readsBranches_28 : decode cX5_readsBranches 28 = .ok (.invokevirtual 147, 3) := by decide +kernel
theorem dX5_readsBranches_31 : decode cX5_readsBranches 31 = .ok (.istore_n 1, 1) := by decide +kernel
theorem dX5_readsBranches_32 : decode cX5_readsBranches 32 = .ok (.goto (-27), 3) := by decide +kernel
theorem dX5_readsBranches_35 : decode cX5_readsBranches 35 = .ok (.iload_n 1, 1) := by decide +kernel
theorem dX5_readsBranches_36 : decode cX5_readsBranches 36 = .ok (.ireturn, 1) := by decide +kernel
set_option maxRecDepth 20000 in
theorem ggX5_readsCircuit_X5_character : GoodIn wsX5_readsCircuit wsX5_character := goodIn_r _ [8, 9, 10, 30, 31, 32, 33, 34, 35, 36, 37, 38, 39, 40, 41] (by decide +kernel) (by decide +kernel)
set_option maxRecDepth 20000 in
theorem gX5_readsCircuit_X5_character : GoodIn wsX5_readsCircuit (wsV RX5 141 RX5 yX5_character wsX5_character) := goodIn_app (goodIn_of _ (by decide +kernel)) ggX5_readsCircuit_X5_character
set_option maxRecDepth 20000 in
theorem ggX5_readsCircuit_X5_within : GoodIn wsX5_readsCircuit wsX5_within := goodIn_r _ [13] (by decide +kernel) (by decide +kernel)
set_option maxRecDepth 20000 in
theorem gX5_readsCircuit_X5_within : GoodIn wsX5_readsCircuit (va_wsS RX5 43 yX5_within wsX5_within) := goodIn_app (goodIn_of _ (by decide +kernel)) ggX5_readsCircuit_X5_within
set_option maxRecDepth 20000 in
theorem ggX5_readsCircuit_X5_isNext : GoodIn wsX5_readsCircuit wsX5_isNext := goodIn_r _ [17, 2, 4, 5, 6, 7, 8, 9, 10, 30, 31, 32, 33, 34, 35, 36, 37, 38, 39, 40, 41] (by decide +kernel) (by decide +kernel)
set_option maxRecDepth 20000 in
theorem gX5_readsCircuit_X5_isNext : GoodIn wsX5_readsCircuit (wsV RX5 99 RX5 yX5_isNext wsX5_isNext) := goodIn_app (goodIn_of _ (by decide +kernel)) ggX5_readsCircuit_X5_isNext
set_option maxRecDepth 20000 in
theorem ggX5_readsCircuit_X5_readsBranches : GoodIn wsX5_readsCircuit wsX5_readsBranches := goodIn_r _ [21, 1, 22, 23, 24, 7, 25, 26, 2, 14, 15, 16, 17, 4, 5, 6, 8, 9, 10, 27, 28, 29, 11, 12, 13, 30, 31, 32, 33, 34, 35, 36, 37, 38, 39, 40, 41] (by decide +kernel) (by decide +kernel)
set_option maxRecDepth 20000 in
theorem gX5_readsCircuit_X5_readsBranches : GoodIn wsX5_readsCircuit (wsV RX5 150 RX5 yX5_readsBranches wsX5_readsBranches) := goodIn_app (goodIn_of _ (by decide +kernel)) ggX5_readsCircuit_X5_readsBranches
theorem dX5_readsCircuit_0 : decode cX5_readsCircuit 0 = .ok (.aload_n 0, 1) := by decide +kernel
theorem dX5_readsCircuit_1 : decode cX5_readsCircuit 1 = .ok (.iconst 0, 1) := by decide +kernel
theorem dX5_readsCircuit_2 : decode cX5_readsCircuit 2 = .ok (.putfield 105, 3) := by decide +kernel
theorem dX5_readsCircuit_5 : decode cX5_readsCircuit 5 = .ok (.aload_n 0, 1) := by decide +kernel
theorem dX5_readsCircuit_6 : decode cX5_readsCircuit 6 = .ok (.aload_n 0, 1) := by decide +kernel
theorem dX5_readsCircuit_7 : decode cX5_readsCircuit 7 = .ok (.getfield 89, 3) := by decide +kernel
theorem dX5_readsCircuit_10 : decode cX5_readsCircuit 10 = .ok (.invokevirtual 141, 3) := by decide +kernel
theorem dX5_readsCircuit_13 : decode cX5_readsCircuit 13 = .ok (.istore_n 1, 1) := by decide +kernel
theorem dX5_readsCircuit_14 : decode cX5_readsCircuit 14 = .ok (.iload_n 1, 1) := by decide +kernel
theorem dX5_readsCircuit_15 : decode cX5_readsCircuit 15 = .ok (.bipush 65, 2) := by decide +kernel
theorem dX5_readsCircuit_17 : decode cX5_readsCircuit 17 = .ok (.bipush 74, 2) := by decide +kernel
theorem dX5_readsCircuit_19 : decode cX5_readsCircuit 19 = .ok (.invokestatic 43, 3) := by decide +kernel
theorem dX5_readsCircuit_22 : decode cX5_readsCircuit 22 = .ok (.ifCond .ne 5, 3) := by decide +kernel
theorem dX5_readsCircuit_25 : decode cX5_readsCircuit 25 = .ok (.iconst 0, 1) := by decide +kernel
theorem dX5_readsCircuit_26 : decode cX5_readsCircuit 26 = .ok (.ireturn, 1) := by decide +kernel
theorem dX5_readsCircuit_27 : decode cX5_readsCircuit 27 = .ok (.aload_n 0, 1) := by decide +kernel
theorem dX5_readsCircuit_28 : decode cX5_readsCircuit 28 = .ok (.iload_n 1, 1) := by decide +kernel
theorem dX5_readsCircuit_29 : decode cX5_readsCircuit 29 = .ok (.bipush 65, 2) := by decide +kernel
theorem dX5_readsCircuit_31 : decode cX5_readsCircuit 31 = .ok (.isub, 1) := by decide +kernel
theorem dX5_readsCircuit_32 : decode cX5_readsCircuit 32 = .ok (.putfield 102, 3) := by decide +kernel
theorem dX5_readsCircuit_35 : decode cX5_readsCircuit 35 = .ok (.aload_n 0, 1) := by decide +kernel
theorem dX5_readsCircuit_36 : decode cX5_readsCircuit 36 = .ok (.dup, 1) := by decide +kernel
theorem dX5_readsCircuit_37 : decode cX5_readsCircuit 37 = .ok (.getfield 89, 3) := by decide +kernel
theorem dX5_readsCircuit_40 : decode cX5_readsCircuit 40 = .ok (.iconst 1, 1) := by decide +kernel
theorem dX5_readsCircuit_41 : decode cX5_readsCircuit 41 = .ok (.iadd, 1) := by decide +kernel
theorem dX5_readsCircuit_42 : decode cX5_readsCircuit 42 = .ok (.putfield 89, 3) := by decide +kernel
theorem dX5_readsCircuit_45 : decode cX5_readsCircuit 45 = .ok (.aload_n 0, 1) := by decide +kernel
theorem dX5_readsCircuit_46 : decode cX5_readsCircuit 46 = .ok (.bipush 61, 2) := by decide +kernel
theorem dX5_readsCircuit_48 : decode cX5_readsCircuit 48 = .ok (.invokevirtual 99, 3) := by decide +kernel
theorem dX5_readsCircuit_51 : decode cX5_readsCircuit 51 = .ok (.ifCond .eq 23, 3) := by decide +kernel
theorem dX5_readsCircuit_54 : decode cX5_readsCircuit 54 = .ok (.aload_n 0, 1) := by decide +kernel
theorem dX5_readsCircuit_55 : decode cX5_readsCircuit 55 = .ok (.bipush 48, 2) := by decide +kernel
theorem dX5_readsCircuit_57 : decode cX5_readsCircuit 57 = .ok (.invokevirtual 99, 3) := by decide +kernel
theorem dX5_readsCircuit_60 : decode cX5_readsCircuit 60 = .ok (.ifCond .ne 10, 3) := by decide +kernel
theorem dX5_readsCircuit_63 : decode cX5_readsCircuit 63 = .ok (.aload_n 0, 1) := by decide +kernel
theorem dX5_readsCircuit_64 : decode cX5_readsCircuit 64 = .ok (.invokevirtual 150, 3) := by decide +kernel
theorem dX5_readsCircuit_67 : decode cX5_readsCircuit 67 = .ok (.ifCond .eq 7, 3) := by decide +kernel
theorem dX5_readsCircuit_70 : decode cX5_readsCircuit 70 = .ok (.iconst 1, 1) := by decide +kernel
theorem dX5_readsCircuit_71 : decode cX5_readsCircuit 71 = .ok (.goto 4, 3) := by decide +kernel
theorem dX5_readsCircuit_74 : decode cX5_readsCircuit 74 = .ok (.iconst 0, 1) := by decide +kernel
theorem dX5_readsCircuit_75 : decode cX5_readsCircuit 75 = .ok (.ireturn, 1) := by decide +kernel
set_option maxRecDepth 20000 in
theorem ggX5_findFault_X5_readsCircuit : GoodIn wsX5_findFault wsX5_readsCircuit := goodIn_r _ [7, 8, 1, 9, 10, 11, 12, 6, 13, 2, 14, 15, 16, 17, 18, 19, 20, 21, 22, 23, 24, 25, 26, 27, 28, 29, 30, 31, 32, 33, 34, 35, 36, 37, 38, 39, 40, 41, 42, 43, 44, 45] (by decide +kernel) (by decide +kernel)
set_option maxRecDepth 20000 in
theorem gX5_findFault_X5_readsCircuit : GoodIn wsX5_findFault (wsV RX5 95 RX5 yX5_readsCircuit wsX5_readsCircuit) := goodIn_app (goodIn_of _ (by decide +kernel)) ggX5_findFault_X5_readsCircuit
set_option maxRecDepth 20000 in
theorem ggX5_findFault_X5_isNext : GoodIn wsX5_findFault wsX5_isNext := goodIn_r _ [21, 1, 10, 11, 12, 6, 13, 2, 14, 34, 35, 36, 37, 38, 39, 40, 41, 42, 43, 44, 45] (by decide +kernel) (by decide +kernel)
set_option maxRecDepth 20000 in
theorem gX5_findFault_X5_isNext : GoodIn wsX5_findFault (wsV RX5 99 RX5 yX5_isNext wsX5_isNext) := goodIn_app (goodIn_of _ (by decide +kernel)) ggX5_findFault_X5_isNext
theorem dX5_findFault_0 : decode cX5_findFault 0 = .ok (.aload_n 0, 1) := by decide +kernel
theorem dX5_findFault_1 : decode cX5_findFault 1 = .ok (.iconst 0, 1) := by decide +kernel
theorem dX5_findFault_2 : decode cX5_findFault 2 = .ok (.putfield 89, 3) := by decide +kernel
theorem dX5_findFault_5 : decode cX5_findFault 5 = .ok (.aload_n 0, 1) := by decide +kernel
theorem dX5_findFault_6 : decode cX5_findFault 6 = .ok (.invokevirtual 95, 3) := by decide +kernel
theorem dX5_findFault_9 : decode cX5_findFault 9 = .ok (.ifCond .ne 8, 3) := by decide +kernel
theorem dX5_findFault_12 : decode cX5_findFault 12 = .ok (.aload_n 0, 1) := by decide +kernel
theorem dX5_findFault_13 : decode cX5_findFault 13 = .ok (.getfield 89, 3) := by decide +kernel
theorem dX5_findFault_16 : decode cX5_findFault 16 = .ok (.ireturn, 1) := by decide +kernel
theorem dX5_findFault_17 : decode cX5_findFault 17 = .ok (.aload_n 0, 1) := by decide +kernel
theorem dX5_findFault_18 : decode cX5_findFault 18 = .ok (.getfield 89, 3) := by decide +kernel
theorem dX5_findFault_21 : decode cX5_findFault 21 = .ok (.aload_n 0, 1) := by decide +kernel
theorem dX5_findFault_22 : decode cX5_findFault 22 = .ok (.getfield 92, 3) := by decide +kernel
theorem dX5_findFault_25 : decode cX5_findFault 25 = .ok (.if_icmp .ne 6, 3) := by decide +kernel
theorem dX5_findFault_28 : decode cX5_findFault 28 = .ok (.bipush (-6), 2) := by decide +kernel
theorem dX5_findFault_30 : decode cX5_findFault 30 = .ok (.ireturn, 1) := by decide +kernel
theorem dX5_findFault_31 : decode cX5_findFault 31 = .ok (.aload_n 0, 1) := by decide +kernel
theorem dX5_findFault_32 : decode cX5_findFault 32 = .ok (.bipush 59, 2) := by decide +kernel
theorem dX5_findFault_34 : decode cX5_findFault 34 = .ok (.invokevirtual 99, 3) := by decide +kernel
theorem dX5_findFault_37 : decode cX5_findFault 37 = .ok (.ifCond .ne (-32), 3) := by decide +kernel
theorem dX5_findFault_40 : decode cX5_findFault 40 = .ok (.aload_n 0, 1) := by decide +kernel
theorem dX5_findFault_41 : decode cX5_findFault 41 = .ok (.getfield 89, 3) := by decide +kernel
theorem dX5_findFault_44 : decode cX5_findFault 44 = .ok (.ireturn, 1) := by decide +kernel
set_option maxRecDepth 20000 in
theorem ggX5_fault_X5_findFault : GoodIn wsX5_fault wsX5_findFault := goodIn_r _ [5, 6, 7, 8, 9, 10, 4, 11, 12, 13, 14, 15, 16, 17, 18, 19, 20, 21, 22, 23, 24, 25, 26, 27, 28, 29, 30, 31, 32, 33, 34, 35, 36, 37, 38, 39, 40, 41, 42, 43, 44, 45, 46, 47, 48, 49] (by decide +kernel) (by decide +kernel)
set_option maxRecDepth 20000 in
theorem gX5_fault_X5_findFault : GoodIn wsX5_fault (wsV RX5 86 RX5 yX5_findFault wsX5_findFault) := goodIn_app (goodIn_of _ (by decide +kernel)) ggX5_fault_X5_findFault
theorem dX5_fault_0 : decode cX5_fault 0 = .ok (.aload_n 0, 1) := by decide +kernel
theorem dX5_fault_1 : decode cX5_fault 1 = .ok (.invokevirtual 86, 3) := by decide +kernel
theorem dX5_fault_4 : decode cX5_fault 4 = .ok (.ireturn, 1) := by decide +kernel
set_option maxRecDepth 20000 in
theorem ggX5_undo_X5_moves : GoodIn wsX5_undo wsX5_moves := goodIn_r _ [7] (by decide +kernel) (by decide +kernel)
set_option maxRecDepth 20000 in
theorem gX5_undo_X5_moves : GoodIn wsX5_undo (va_wsS RX5 39 yX5_moves wsX5_moves) := goodIn_app (goodIn_of _ (by decide +kernel)) ggX5_undo_X5_moves
theorem dX5_undo_0 : decode cX5_undo 0 = .ok (.aload_n 0, 1) := by decide +kernel
theorem dX5_undo_1 : decode cX5_undo 1 = .ok (.getfield 35, 3) := by decide +kernel
theorem dX5_undo_4 : decode cX5_undo 4 = .ok (.ifCond .ne 6, 3) := by decide +kernel
theorem dX5_undo_7 : decode cX5_undo 7 = .ok (.bipush (-5), 2) := by decide +kernel
theorem dX5_undo_9 : decode cX5_undo 9 = .ok (.ireturn, 1) := by decide +kernel
theorem dX5_undo_10 : decode cX5_undo 10 = .ok (.aload_n 0, 1) := by decide +kernel
theorem dX5_undo_11 : decode cX5_undo 11 = .ok (.dup, 1) := by decide +kernel
theorem dX5_undo_12 : decode cX5_undo 12 = .ok (.getfield 35, 3) := by decide +kernel
theorem dX5_undo_15 : decode cX5_undo 15 = .ok (.iconst 1, 1) := by decide +kernel
theorem dX5_undo_16 : decode cX5_undo 16 = .ok (.isub, 1) := by decide +kernel
theorem dX5_undo_17 : decode cX5_undo 17 = .ok (.putfield 35, 3) := by decide +kernel
theorem dX5_undo_20 : decode cX5_undo 20 = .ok (.aload_n 0, 1) := by decide +kernel
theorem dX5_undo_21 : decode cX5_undo 21 = .ok (.getfield 16, 3) := by decide +kernel
theorem dX5_undo_24 : decode cX5_undo 24 = .ok (.aload_n 0, 1) := by decide +kernel
theorem dX5_undo_25 : decode cX5_undo 25 = .ok (.getfield 35, 3) := by decide +kernel
theorem dX5_undo_28 : decode cX5_undo 28 = .ok (.sipush 236, 3) := by decide +kernel
theorem dX5_undo_31 : decode cX5_undo 31 = .ok (.imul, 1) := by decide +kernel
theorem dX5_undo_32 : decode cX5_undo 32 = .ok (.aload_n 0, 1) := by decide +kernel
theorem dX5_undo_33 : decode cX5_undo 33 = .ok (.getfield 7, 3) := by decide +kernel
theorem dX5_undo_36 : decode cX5_undo 36 = .ok (.iconst 0, 1) := by decide +kernel
theorem dX5_undo_37 : decode cX5_undo 37 = .ok (.invokestatic 39, 3) := by decide +kernel
theorem dX5_undo_40 : decode cX5_undo 40 = .ok (.aload_n 0, 1) := by decide +kernel
theorem dX5_undo_41 : decode cX5_undo 41 = .ok (.getfield 35, 3) := by decide +kernel
theorem dX5_undo_44 : decode cX5_undo 44 = .ok (.ireturn, 1) := by decide +kernel
set_option maxRecDepth 20000 in
theorem ggX5_save_X5_within : GoodIn wsX5_save wsX5_within := goodIn_r _ [7] (by decide +kernel) (by decide +kernel)
set_option maxRecDepth 20000 in
theorem gX5_save_X5_within : GoodIn wsX5_save (va_wsS RX5 43 yX5_within wsX5_within) := goodIn_app (goodIn_of _ (by decide +kernel)) ggX5_save_X5_within
set_option maxRecDepth 20000 in
theorem ggX5_save_X5_moves : GoodIn wsX5_save wsX5_moves := goodIn_r _ [10] (by decide +kernel) (by decide +kernel)
set_option maxRecDepth 20000 in
theorem gX5_save_X5_moves : GoodIn wsX5_save (va_wsS RX5 39 yX5_moves wsX5_moves) := goodIn_app (goodIn_of _ (by decide +kernel)) ggX5_save_X5_moves
theorem dX5_save_0 : decode cX5_save 0 = .ok (.iload_n 1, 1) := by decide +kernel
theorem dX5_save_1 : decode cX5_save 1 = .ok (.iconst 0, 1) := by decide +kernel
theorem dX5_save_2 : decode cX5_save 2 = .ok (.iconst 1, 1) := by decide +kernel
theorem dX5_save_3 : decode cX5_save 3 = .ok (.invokestatic 43, 3) := by decide +kernel
theorem dX5_save_6 : decode cX5_save 6 = .ok (.ifCond .ne 6, 3) := by decide +kernel
theorem dX5_save_9 : decode cX5_save 9 = .ok (.bipush (-2), 2) := by decide +kernel
theorem dX5_save_11 : decode cX5_save 11 = .ok (.ireturn, 1) := by decide +kernel
theorem dX5_save_12 : decode cX5_save 12 = .ok (.aload_n 0, 1) := by decide +kernel
theorem dX5_save_13 : decode cX5_save 13 = .ok (.getfield 7, 3) := by decide +kernel
theorem dX5_save_16 : decode cX5_save 16 = .ok (.iconst 0, 1) := by decide +kernel
theorem dX5_save_17 : decode cX5_save 17 = .ok (.aload_n 0, 1) := by decide +kernel
theorem dX5_save_18 : decode cX5_save 18 = .ok (.getfield 19, 3) := by decide +kernel
theorem dX5_save_21 : decode cX5_save 21 = .ok (.sipush 236, 3) := by decide +kernel
theorem dX5_save_24 : decode cX5_save 24 = .ok (.iload_n 1, 1) := by decide +kernel
theorem dX5_save_25 : decode cX5_save 25 = .ok (.imul, 1) := by decide +kernel
theorem dX5_save_26 : decode cX5_save 26 = .ok (.invokestatic 39, 3) := by decide +kernel
theorem dX5_save_29 : decode cX5_save 29 = .ok (.aload_n 0, 1) := by decide +kernel
theorem dX5_save_30 : decode cX5_save 30 = .ok (.getfield 22, 3) := by decide +kernel
theorem dX5_save_33 : decode cX5_save 33 = .ok (.iload_n 1, 1) := by decide +kernel
theorem dX5_save_34 : decode cX5_save 34 = .ok (.iconst 1, 1) := by decide +kernel
theorem dX5_save_35 : decode cX5_save 35 = .ok (.iastore, 1) := by decide +kernel
theorem dX5_save_36 : decode cX5_save 36 = .ok (.aload_n 0, 1) := by decide +kernel
theorem dX5_save_37 : decode cX5_save 37 = .ok (.getfield 7, 3) := by decide +kernel
theorem dX5_save_40 : decode cX5_save 40 = .ok (.iconst 0, 1) := by decide +kernel
theorem dX5_save_41 : decode cX5_save 41 = .ok (.iaload, 1) := by decide +kernel
theorem dX5_save_42 : decode cX5_save 42 = .ok (.ireturn, 1) := by decide +kernel
set_option maxRecDepth 20000 in
theorem ggX5_restore_X5_within : GoodIn wsX5_restore wsX5_within := goodIn_r _ [7] (by decide +kernel) (by decide +kernel)
set_option maxRecDepth 20000 in
theorem gX5_restore_X5_within : GoodIn wsX5_restore (va_wsS RX5 43 yX5_within wsX5_within) := goodIn_app (goodIn_of _ (by decide +kernel)) ggX5_restore_X5_within
set_option maxRecDepth 20000 in
theorem ggX5_restore_X5_record : GoodIn wsX5_restore wsX5_record := goodIn_r _ [11, 12, 13, 3, 14, 15, 6, 16, 17, 18, 19, 20, 21, 22, 23, 24, 25, 26, 27, 28] (by decide +kernel) (by decide +kernel)
set_option maxRecDepth 20000 in
theorem gX5_restore_X5_record : GoodIn wsX5_restore (wsV RX5 83 RX5 yX5_record wsX5_record) := goodIn_app (goodIn_of _ (by decide +kernel)) ggX5_restore_X5_record
set_option maxRecDepth 20000 in
theorem ggX5_restore_X5_moves : GoodIn wsX5_restore wsX5_moves := goodIn_r _ [16] (by decide +kernel) (by decide +kernel)
set_option maxRecDepth 20000 in
theorem gX5_restore_X5_moves : GoodIn wsX5_restore (va_wsS RX5 39 yX5_moves wsX5_moves) := goodIn_app (goodIn_of _ (by decide +kernel)) ggX5_restore_X5_moves
theorem dX5_restore_0 : decode cX5_restore 0 = .ok (.iload_n 1, 1) := by decide +kernel
theorem dX5_restore_1 : decode cX5_restore 1 = .ok (.iconst 0, 1) := by decide +kernel
theorem dX5_restore_2 : decode cX5_restore 2 = .ok (.iconst 1, 1) := by decide +kernel
theorem dX5_restore_3 : decode cX5_restore 3 = .ok (.invokestatic 43, 3) := by decide +kernel
theorem dX5_restore_6 : decode cX5_restore 6 = .ok (.ifCond .ne 6, 3) := by decide +kernel
theorem dX5_restore_9 : decode cX5_restore 9 = .ok (.bipush (-2), 2) := by decide +kernel
theorem dX5_restore_11 : decode cX5_restore 11 = .ok (.ireturn, 1) := by decide +kernel
theorem dX5_restore_12 : decode cX5_restore 12 = .ok (.aload_n 0, 1) := by decide +kernel
theorem dX5_restore_13 : decode cX5_restore 13 = .ok (.getfield 22, 3) := by decide +kernel
theorem dX5_restore_16 : decode cX5_restore 16 = .ok (.iload_n 1, 1) := by decide +kernel
theorem dX5_restore_17 : decode cX5_restore 17 = .ok (.iaload, 1) := by decide +kernel
theorem dX5_restore_18 : decode cX5_restore 18 = .ok (.ifCond .ne 6, 3) := by decide +kernel
theorem dX5_restore_21 : decode cX5_restore 21 = .ok (.bipush (-5), 2) := by decide +kernel
theorem dX5_restore_23 : decode cX5_restore 23 = .ok (.ireturn, 1) := by decide +kernel
theorem dX5_restore_24 : decode cX5_restore 24 = .ok (.aload_n 0, 1) := by decide +kernel
theorem dX5_restore_25 : decode cX5_restore 25 = .ok (.invokevirtual 83, 3) := by decide +kernel
theorem dX5_restore_28 : decode cX5_restore 28 = .ok (.aload_n 0, 1) := by decide +kernel
theorem dX5_restore_29 : decode cX5_restore 29 = .ok (.getfield 19, 3) := by decide +kernel
theorem dX5_restore_32 : decode cX5_restore 32 = .ok (.sipush 236, 3) := by decide +kernel
theorem dX5_restore_35 : decode cX5_restore 35 = .ok (.iload_n 1, 1) := by decide +kernel
theorem dX5_restore_36 : decode cX5_restore 36 = .ok (.imul, 1) := by decide +kernel
theorem dX5_restore_37 : decode cX5_restore 37 = .ok (.aload_n 0, 1) := by decide +kernel
theorem dX5_restore_38 : decode cX5_restore 38 = .ok (.getfield 7, 3) := by decide +kernel
theorem dX5_restore_41 : decode cX5_restore 41 = .ok (.iconst 0, 1) := by decide +kernel
theorem dX5_restore_42 : decode cX5_restore 42 = .ok (.invokestatic 39, 3) := by decide +kernel
theorem dX5_restore_45 : decode cX5_restore 45 = .ok (.aload_n 0, 1) := by decide +kernel
theorem dX5_restore_46 : decode cX5_restore 46 = .ok (.getfield 7, 3) := by decide +kernel
theorem dX5_restore_49 : decode cX5_restore 49 = .ok (.iconst 0, 1) := by decide +kernel
theorem dX5_restore_50 : decode cX5_restore 50 = .ok (.iaload, 1) := by decide +kernel
theorem dX5_restore_51 : decode cX5_restore 51 = .ok (.ireturn, 1) := by decide +kernel
theorem dJ6_bitCount_0f7a4_0 : decode cJ6_bitCount_0f7a4 0 = .ok (.iload_n 0, 1) := by decide +kernel
theorem dJ6_bitCount_0f7a4_1 : decode cJ6_bitCount_0f7a4 1 = .ok (.iload_n 0, 1) := by decide +kernel
theorem dJ6_bitCount_0f7a4_2 : decode cJ6_bitCount_0f7a4 2 = .ok (.iconst 1, 1) := by decide +kernel
theorem dJ6_bitCount_0f7a4_3 : decode cJ6_bitCount_0f7a4 3 = .ok (.iushr, 1) := by decide +kernel
theorem dJ6_bitCount_0f7a4_4 : decode cJ6_bitCount_0f7a4 4 = .ok (.ldc_w 265, 3) := by decide +kernel
theorem dJ6_bitCount_0f7a4_7 : decode cJ6_bitCount_0f7a4 7 = .ok (.iand, 1) := by decide +kernel
theorem dJ6_bitCount_0f7a4_8 : decode cJ6_bitCount_0f7a4 8 = .ok (.isub, 1) := by decide +kernel
theorem dJ6_bitCount_0f7a4_9 : decode cJ6_bitCount_0f7a4 9 = .ok (.istore_n 0, 1) := by decide +kernel
