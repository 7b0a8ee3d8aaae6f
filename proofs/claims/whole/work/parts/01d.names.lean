theorem dX4_unsafe_21 : decode cX4_unsafe 21 = .ok (.invokevirtual 173, 3) := by decide +kernel
theorem dX4_unsafe_24 : decode cX4_unsafe 24 = .ok (.iload_n 3, 1) := by decide +kernel
theorem dX4_unsafe_25 : decode cX4_unsafe 25 = .ok (.iload_n 1, 1) := by decide +kernel
theorem dX4_unsafe_26 : decode cX4_unsafe 26 = .ok (.if_icmp .eq 23, 3) := by decide +kernel
theorem dX4_unsafe_29 : decode cX4_unsafe 29 = .ok (.aload_n 0, 1) := by decide +kernel
theorem dX4_unsafe_30 : decode cX4_unsafe 30 = .ok (.getfield 16, 3) := by decide +kernel
theorem dX4_unsafe_33 : decode cX4_unsafe 33 = .ok (.invokevirtual 167, 3) := by decide +kernel
theorem dX4_unsafe_36 : decode cX4_unsafe 36 = .ok (.iload_n 1, 1) := by decide +kernel
theorem dX4_unsafe_37 : decode cX4_unsafe 37 = .ok (.invokestatic 176, 3) := by decide +kernel
theorem dX4_unsafe_40 : decode cX4_unsafe 40 = .ok (.ifCond .eq 9, 3) := by decide +kernel
theorem dX4_unsafe_43 : decode cX4_unsafe 43 = .ok (.iload_n 2, 1) := by decide +kernel
theorem dX4_unsafe_44 : decode cX4_unsafe 44 = .ok (.iconst 1, 1) := by decide +kernel
theorem dX4_unsafe_45 : decode cX4_unsafe 45 = .ok (.iload_n 3, 1) := by decide +kernel
theorem dX4_unsafe_46 : decode cX4_unsafe 46 = .ok (.ishl, 1) := by decide +kernel
theorem dX4_unsafe_47 : decode cX4_unsafe 47 = .ok (.ior, 1) := by decide +kernel
theorem dX4_unsafe_48 : decode cX4_unsafe 48 = .ok (.istore_n 2, 1) := by decide +kernel
theorem dX4_unsafe_49 : decode cX4_unsafe 49 = .ok (.iinc 3 1, 3) := by decide +kernel
theorem dX4_unsafe_52 : decode cX4_unsafe 52 = .ok (.goto (-39), 3) := by decide +kernel
theorem dX4_unsafe_55 : decode cX4_unsafe 55 = .ok (.iload_n 2, 1) := by decide +kernel
theorem dX4_unsafe_56 : decode cX4_unsafe 56 = .ok (.ireturn, 1) := by decide +kernel
set_option maxRecDepth 20000 in
theorem ggX4_reach_X4_isRelay : GoodIn wsX4_reach wsX4_isRelay := goodIn_r _ [5, 6, 7, 4, 8] (by decide +kernel) (by decide +kernel)
set_option maxRecDepth 20000 in
theorem gX4_reach_X4_isRelay : GoodIn wsX4_reach (va_wsS RX4 48 yX4_isRelay wsX4_isRelay) := goodIn_app (goodIn_of _ (by decide +kernel)) ggX4_reach_X4_isRelay
set_option maxRecDepth 20000 in
theorem ggX4_reach_J6_bitCount_0f7a4 : GoodIn wsX4_reach wsJ6_bitCount_0f7a4 := goodIn_r _ [12, 13, 14, 15] (by decide +kernel) (by decide +kernel)
set_option maxRecDepth 20000 in
theorem gX4_reach_J6_bitCount_0f7a4 : GoodIn wsX4_reach (va_wsS RX4 179 yJ6_bitCount_0f7a4 wsJ6_bitCount_0f7a4) := goodIn_app (goodIn_of _ (by decide +kernel)) ggX4_reach_J6_bitCount_0f7a4
set_option maxRecDepth 20000 in
theorem ggX4_reach_X4_tryButtons : GoodIn wsX4_reach wsX4_tryButtons := goodIn_r _ [19, 1, 20, 21, 22, 23, 24, 25, 26, 27, 28, 29, 30, 31, 32, 33, 34, 35, 36, 37, 38, 39, 40, 41, 42, 43, 44, 92, 93, 94, 95, 96, 97, 98, 99, 100, 101, 102, 103, 104, 105, 106, 107, 108, 109, 110, 111, 112] (by decide +kernel) (by decide +kernel)
set_option maxRecDepth 20000 in
theorem gX4_reach_X4_tryButtons : GoodIn wsX4_reach (wsV RX4 164 RX4 yX4_tryButtons wsX4_tryButtons) := goodIn_app (goodIn_of _ (by decide +kernel)) ggX4_reach_X4_tryButtons
set_option maxRecDepth 20000 in
theorem ggX4_reach_X3_upAtRest : GoodIn wsX4_reach wsX3_upAtRest := goodIn_r _ [48, 27, 49, 50, 51, 25, 52, 53, 54, 55, 56, 28, 57, 58, 59, 60, 61, 62, 63, 64, 41, 65, 4, 66, 67, 68, 69, 70, 29, 42, 43, 71, 72, 73, 74, 31, 39, 75, 76, 77, 78, 79, 80, 81, 82, 83, 38, 33, 32, 84, 85, 86, 87, 40, 30, 99, 100, 101, 102, 103, 104, 105, 106, 107, 108, 109, 110, 111, 112] (by decide +kernel) (by decide +kernel)
set_option maxRecDepth 20000 in
theorem gX4_reach_X3_upAtRest : GoodIn wsX4_reach (wsV RX4 167 RX3 yX3_upAtRest wsX3_upAtRest) := goodIn_app (goodIn_of _ (by decide +kernel)) ggX4_reach_X3_upAtRest
set_option maxRecDepth 20000 in
theorem ggX4_reach_X4_isUpIn : GoodIn wsX4_reach wsX4_isUpIn := goodIn_r _ [90, 91, 75, 4, 76, 77, 78, 79] (by decide +kernel) (by decide +kernel)
set_option maxRecDepth 20000 in
theorem gX4_reach_X4_isUpIn : GoodIn wsX4_reach (va_wsS RX4 176 yX4_isUpIn wsX4_isUpIn) := goodIn_app (goodIn_of _ (by decide +kernel)) ggX4_reach_X4_isUpIn
theorem dX4_reach_0 : decode cX4_reach 0 = .ok (.iload_n 1, 1) := by decide +kernel
theorem dX4_reach_1 : decode cX4_reach 1 = .ok (.invokestatic 48, 3) := by decide +kernel
theorem dX4_reach_4 : decode cX4_reach 4 = .ok (.ifCond .ne 5, 3) := by decide +kernel
theorem dX4_reach_7 : decode cX4_reach 7 = .ok (.iconst (-1), 1) := by decide +kernel
theorem dX4_reach_8 : decode cX4_reach 8 = .ok (.ireturn, 1) := by decide +kernel
theorem dX4_reach_9 : decode cX4_reach 9 = .ok (.iconst 0, 1) := by decide +kernel
theorem dX4_reach_10 : decode cX4_reach 10 = .ok (.istore_n 2, 1) := by decide +kernel
theorem dX4_reach_11 : decode cX4_reach 11 = .ok (.iload_n 2, 1) := by decide +kernel
theorem dX4_reach_12 : decode cX4_reach 12 = .ok (.bipush 6, 2) := by decide +kernel
theorem dX4_reach_14 : decode cX4_reach 14 = .ok (.if_icmp .gt 55, 3) := by decide +kernel
theorem dX4_reach_17 : decode cX4_reach 17 = .ok (.iconst 0, 1) := by decide +kernel
theorem dX4_reach_18 : decode cX4_reach 18 = .ok (.istore_n 3, 1) := by decide +kernel
theorem dX4_reach_19 : decode cX4_reach 19 = .ok (.iload_n 3, 1) := by decide +kernel
theorem dX4_reach_20 : decode cX4_reach 20 = .ok (.bipush 63, 2) := by decide +kernel
theorem dX4_reach_22 : decode cX4_reach 22 = .ok (.if_icmp .gt 41, 3) := by decide +kernel
theorem dX4_reach_25 : decode cX4_reach 25 = .ok (.iload_n 3, 1) := by decide +kernel
theorem dX4_reach_26 : decode cX4_reach 26 = .ok (.invokestatic 179, 3) := by decide +kernel
theorem dX4_reach_29 : decode cX4_reach 29 = .ok (.iload_n 2, 1) := by decide +kernel
theorem dX4_reach_30 : decode cX4_reach 30 = .ok (.if_icmp .eq 6, 3) := by decide +kernel
theorem dX4_reach_33 : decode cX4_reach 33 = .ok (.goto 24, 3) := by decide +kernel
theorem dX4_reach_36 : decode cX4_reach 36 = .ok (.aload_n 0, 1) := by decide +kernel
theorem dX4_reach_37 : decode cX4_reach 37 = .ok (.iload_n 3, 1) := by decide +kernel
theorem dX4_reach_38 : decode cX4_reach 38 = .ok (.invokevirtual 164, 3) := by decide +kernel
theorem dX4_reach_41 : decode cX4_reach 41 = .ok (.aload_n 0, 1) := by decide +kernel
theorem dX4_reach_42 : decode cX4_reach 42 = .ok (.getfield 16, 3) := by decide +kernel
theorem dX4_reach_45 : decode cX4_reach 45 = .ok (.invokevirtual 167, 3) := by decide +kernel
theorem dX4_reach_48 : decode cX4_reach 48 = .ok (.iload_n 1, 1) := by decide +kernel
theorem dX4_reach_49 : decode cX4_reach 49 = .ok (.invokestatic 176, 3) := by decide +kernel
theorem dX4_reach_52 : decode cX4_reach 52 = .ok (.ifCond .eq 5, 3) := by decide +kernel
theorem dX4_reach_55 : decode cX4_reach 55 = .ok (.iload_n 3, 1) := by decide +kernel
theorem dX4_reach_56 : decode cX4_reach 56 = .ok (.ireturn, 1) := by decide +kernel
theorem dX4_reach_57 : decode cX4_reach 57 = .ok (.iinc 3 1, 3) := by decide +kernel
theorem dX4_reach_60 : decode cX4_reach 60 = .ok (.goto (-41), 3) := by decide +kernel
theorem dX4_reach_63 : decode cX4_reach 63 = .ok (.iinc 2 1, 3) := by decide +kernel
theorem dX4_reach_66 : decode cX4_reach 66 = .ok (.goto (-55), 3) := by decide +kernel
theorem dX4_reach_69 : decode cX4_reach 69 = .ok (.bipush (-6), 2) := by decide +kernel
theorem dX4_reach_71 : decode cX4_reach 71 = .ok (.ireturn, 1) := by decide +kernel
set_option maxRecDepth 20000 in
theorem ggX4_put_X1_lengthOf : GoodIn wsX4_put wsX1_lengthOf := goodIn_r _ [6, 7, 8, 5, 9, 10, 11, 12, 13] (by decide +kernel) (by decide +kernel)
set_option maxRecDepth 20000 in
theorem gX4_put_X1_lengthOf : GoodIn wsX4_put (va_wsS RX4 184 yX1_lengthOf wsX1_lengthOf) := goodIn_app (goodIn_of _ (by decide +kernel)) ggX4_put_X1_lengthOf
set_option maxRecDepth 20000 in
theorem ggX4_put_X1_append : GoodIn wsX4_put wsX1_append := goodIn_r _ [17, 18, 19, 7, 8, 5, 9, 10, 27, 28] (by decide +kernel) (by decide +kernel)
set_option maxRecDepth 20000 in
theorem gX4_put_X1_append : GoodIn wsX4_put (wsV RX4 188 RX1 yX1_append wsX1_append) := goodIn_app (goodIn_of _ (by decide +kernel)) ggX4_put_X1_append
theorem dX4_put_0 : decode cX4_put 0 = .ok (.lload_n 1, 1) := by decide +kernel
theorem dX4_put_1 : decode cX4_put 1 = .ok (.invokestatic 184, 3) := by decide +kernel
theorem dX4_put_4 : decode cX4_put 4 = .ok (.istore_n 3, 1) := by decide +kernel
theorem dX4_put_5 : decode cX4_put 5 = .ok (.iload_n 3, 1) := by decide +kernel
theorem dX4_put_6 : decode cX4_put 6 = .ok (.ifCond .ne 6, 3) := by decide +kernel
theorem dX4_put_9 : decode cX4_put 9 = .ok (.bipush (-2), 2) := by decide +kernel
theorem dX4_put_11 : decode cX4_put 11 = .ok (.ireturn, 1) := by decide +kernel
theorem dX4_put_12 : decode cX4_put 12 = .ok (.aload_n 0, 1) := by decide +kernel
theorem dX4_put_13 : decode cX4_put 13 = .ok (.getfield 22, 3) := by decide +kernel
theorem dX4_put_16 : decode cX4_put 16 = .ok (.getfield 155, 3) := by decide +kernel
theorem dX4_put_19 : decode cX4_put 19 = .ok (.iload_n 3, 1) := by decide +kernel
theorem dX4_put_20 : decode cX4_put 20 = .ok (.iadd, 1) := by decide +kernel
theorem dX4_put_21 : decode cX4_put 21 = .ok (.bipush 64, 2) := by decide +kernel
theorem dX4_put_23 : decode cX4_put 23 = .ok (.if_icmp .le 6, 3) := by decide +kernel
theorem dX4_put_26 : decode cX4_put 26 = .ok (.bipush (-4), 2) := by decide +kernel
theorem dX4_put_28 : decode cX4_put 28 = .ok (.ireturn, 1) := by decide +kernel
theorem dX4_put_29 : decode cX4_put 29 = .ok (.aload_n 0, 1) := by decide +kernel
theorem dX4_put_30 : decode cX4_put 30 = .ok (.getfield 22, 3) := by decide +kernel
theorem dX4_put_33 : decode cX4_put 33 = .ok (.lload_n 1, 1) := by decide +kernel
theorem dX4_put_34 : decode cX4_put 34 = .ok (.iload_n 3, 1) := by decide +kernel
theorem dX4_put_35 : decode cX4_put 35 = .ok (.invokevirtual 188, 3) := by decide +kernel
theorem dX4_put_38 : decode cX4_put 38 = .ok (.aload_n 0, 1) := by decide +kernel
theorem dX4_put_39 : decode cX4_put 39 = .ok (.getfield 22, 3) := by decide +kernel
theorem dX4_put_42 : decode cX4_put 42 = .ok (.getfield 155, 3) := by decide +kernel
theorem dX4_put_45 : decode cX4_put 45 = .ok (.ireturn, 1) := by decide +kernel
set_option maxRecDepth 20000 in
theorem ggX4_wipe_X1_clear : GoodIn wsX4_wipe wsX1_clear := goodIn_r _ [7, 8, 16, 17] (by decide +kernel) (by decide +kernel)
set_option maxRecDepth 20000 in
theorem gX4_wipe_X1_clear : GoodIn wsX4_wipe (wsV RX4 78 RX1 yX1_clear wsX1_clear) := goodIn_app (goodIn_of _ (by decide +kernel)) ggX4_wipe_X1_clear
theorem dX4_wipe_0 : decode cX4_wipe 0 = .ok (.aload_n 0, 1) := by decide +kernel
theorem dX4_wipe_1 : decode cX4_wipe 1 = .ok (.getfield 22, 3) := by decide +kernel
theorem dX4_wipe_4 : decode cX4_wipe 4 = .ok (.getfield 155, 3) := by decide +kernel
theorem dX4_wipe_7 : decode cX4_wipe 7 = .ok (.istore_n 1, 1) := by decide +kernel
theorem dX4_wipe_8 : decode cX4_wipe 8 = .ok (.aload_n 0, 1) := by decide +kernel
theorem dX4_wipe_9 : decode cX4_wipe 9 = .ok (.getfield 22, 3) := by decide +kernel
theorem dX4_wipe_12 : decode cX4_wipe 12 = .ok (.invokevirtual 78, 3) := by decide +kernel
theorem dX4_wipe_15 : decode cX4_wipe 15 = .ok (.iload_n 1, 1) := by decide +kernel
theorem dX4_wipe_16 : decode cX4_wipe 16 = .ok (.ireturn, 1) := by decide +kernel
set_option maxRecDepth 20000 in
theorem ggX4_fault_X2_readInto : GoodIn wsX4_fault wsX2_readInto := goodIn_r _ [8, 9, 10, 11, 12, 13, 14, 7, 15, 16, 17, 18, 19, 20, 21, 22, 23, 24, 25, 26, 27, 28, 29, 30, 31, 32, 33, 34, 35, 36, 37, 38, 39, 40, 41, 42, 43, 44, 45, 46, 47, 48, 49, 50, 51, 52, 53, 54, 55, 56, 57, 58, 59, 60, 61, 62, 63, 64, 65, 66, 67, 68, 69, 70, 71, 72, 73, 74, 75, 76, 77, 85, 86, 87, 88, 89, 90, 91, 92, 93, 94, 95, 96, 97, 98, 99, 100, 101, 102] (by decide +kernel) (by decide +kernel)
set_option maxRecDepth 20000 in
theorem gX4_fault_X2_readInto : GoodIn wsX4_fault (wsV RX4 74 RX2 yX2_readInto wsX2_readInto) := goodIn_app (goodIn_of _ (by decide +kernel)) ggX4_fault_X2_readInto
theorem dX4_fault_0 : decode cX4_fault 0 = .ok (.aload_n 0, 1) := by decide +kernel
theorem dX4_fault_1 : decode cX4_fault 1 = .ok (.getfield 29, 3) := by decide +kernel
theorem dX4_fault_4 : decode cX4_fault 4 = .ok (.aload_n 0, 1) := by decide +kernel
theorem dX4_fault_5 : decode cX4_fault 5 = .ok (.getfield 16, 3) := by decide +kernel
theorem dX4_fault_8 : decode cX4_fault 8 = .ok (.aload_n 0, 1) := by decide +kernel
theorem dX4_fault_9 : decode cX4_fault 9 = .ok (.getfield 22, 3) := by decide +kernel
theorem dX4_fault_12 : decode cX4_fault 12 = .ok (.invokevirtual 74, 3) := by decide +kernel
theorem dX4_fault_15 : decode cX4_fault 15 = .ok (.ireturn, 1) := by decide +kernel
set_option maxRecDepth 20000 in
theorem ggX4_undo_X0_takeBackTo : GoodIn wsX4_undo wsX0_takeBackTo := goodIn_r _ [8, 9, 10, 11, 12, 13, 14, 15, 16, 17, 18, 19, 20, 21, 22, 23, 24, 25, 26, 27, 28, 29, 30, 31, 32, 33, 34, 42, 43, 44, 45, 46, 47, 48, 49, 50, 51, 52, 53, 54, 55, 56, 57, 58] (by decide +kernel) (by decide +kernel)
set_option maxRecDepth 20000 in
theorem gX4_undo_X0_takeBackTo : GoodIn wsX4_undo (wsV RX4 192 RX0 yX0_takeBackTo wsX0_takeBackTo) := goodIn_app (goodIn_of _ (by decide +kernel)) ggX4_undo_X0_takeBackTo
theorem dX4_undo_0 : decode cX4_undo 0 = .ok (.aload_n 0, 1) := by decide +kernel
theorem dX4_undo_1 : decode cX4_undo 1 = .ok (.getfield 36, 3) := by decide +kernel
theorem dX4_undo_4 : decode cX4_undo 4 = .ok (.getfield 158, 3) := by decide +kernel
theorem dX4_undo_7 : decode cX4_undo 7 = .ok (.ifCond .ne 6, 3) := by decide +kernel
theorem dX4_undo_10 : decode cX4_undo 10 = .ok (.bipush (-5), 2) := by decide +kernel
theorem dX4_undo_12 : decode cX4_undo 12 = .ok (.ireturn, 1) := by decide +kernel
theorem dX4_undo_13 : decode cX4_undo 13 = .ok (.aload_n 0, 1) := by decide +kernel
theorem dX4_undo_14 : decode cX4_undo 14 = .ok (.getfield 36, 3) := by decide +kernel
theorem dX4_undo_17 : decode cX4_undo 17 = .ok (.aload_n 0, 1) := by decide +kernel
theorem dX4_undo_18 : decode cX4_undo 18 = .ok (.getfield 12, 3) := by decide +kernel
theorem dX4_undo_21 : decode cX4_undo 21 = .ok (.invokevirtual 192, 3) := by decide +kernel
theorem dX4_undo_24 : decode cX4_undo 24 = .ok (.aload_n 0, 1) := by decide +kernel
theorem dX4_undo_25 : decode cX4_undo 25 = .ok (.getfield 36, 3) := by decide +kernel
theorem dX4_undo_28 : decode cX4_undo 28 = .ok (.getfield 158, 3) := by decide +kernel
theorem dX4_undo_31 : decode cX4_undo 31 = .ok (.ireturn, 1) := by decide +kernel
set_option maxRecDepth 20000 in
theorem ggX4_save_X4_isWithin : GoodIn wsX4_save wsX4_isWithin := goodIn_r _ [8] (by decide +kernel) (by decide +kernel)
set_option maxRecDepth 20000 in
theorem gX4_save_X4_isWithin : GoodIn wsX4_save (va_wsS RX4 52 yX4_isWithin wsX4_isWithin) := goodIn_app (goodIn_of _ (by decide +kernel)) ggX4_save_X4_isWithin
set_option maxRecDepth 20000 in
theorem ggX4_save_X3_copyFrom : GoodIn wsX4_save wsX3_copyFrom := goodIn_r _ [13, 14, 15, 16, 17, 18, 19, 20, 21, 22, 23, 24, 25, 26, 27, 28, 29, 30, 31, 39, 40, 41, 42, 43, 44, 45, 46, 47, 48, 49, 50, 51, 52] (by decide +kernel) (by decide +kernel)
set_option maxRecDepth 20000 in
theorem gX4_save_X3_copyFrom : GoodIn wsX4_save (wsV RX4 71 RX3 yX3_copyFrom wsX3_copyFrom) := goodIn_app (goodIn_of _ (by decide +kernel)) ggX4_save_X3_copyFrom
theorem dX4_save_0 : decode cX4_save 0 = .ok (.iload_n 1, 1) := by decide +kernel
theorem dX4_save_1 : decode cX4_save 1 = .ok (.iconst 0, 1) := by decide +kernel
theorem dX4_save_2 : decode cX4_save 2 = .ok (.iconst 1, 1) := by decide +kernel
theorem dX4_save_3 : decode cX4_save 3 = .ok (.invokestatic 52, 3) := by decide +kernel
theorem dX4_save_6 : decode cX4_save 6 = .ok (.ifCond .ne 6, 3) := by decide +kernel
theorem dX4_save_9 : decode cX4_save 9 = .ok (.bipush (-2), 2) := by decide +kernel
theorem dX4_save_11 : decode cX4_save 11 = .ok (.ireturn, 1) := by decide +kernel
theorem dX4_save_12 : decode cX4_save 12 = .ok (.aload_n 0, 1) := by decide +kernel
theorem dX4_save_13 : decode cX4_save 13 = .ok (.getfield 40, 3) := by decide +kernel
theorem dX4_save_16 : decode cX4_save 16 = .ok (.iload_n 1, 1) := by decide +kernel
theorem dX4_save_17 : decode cX4_save 17 = .ok (.aaload, 1) := by decide +kernel
theorem dX4_save_18 : decode cX4_save 18 = .ok (.aload_n 0, 1) := by decide +kernel
theorem dX4_save_19 : decode cX4_save 19 = .ok (.getfield 12, 3) := by decide +kernel
theorem dX4_save_22 : decode cX4_save 22 = .ok (.invokevirtual 71, 3) := by decide +kernel
theorem dX4_save_25 : decode cX4_save 25 = .ok (.aload_n 0, 1) := by decide +kernel
theorem dX4_save_26 : decode cX4_save 26 = .ok (.getfield 44, 3) := by decide +kernel
theorem dX4_save_29 : decode cX4_save 29 = .ok (.iload_n 1, 1) := by decide +kernel
theorem dX4_save_30 : decode cX4_save 30 = .ok (.iconst 1, 1) := by decide +kernel
theorem dX4_save_31 : decode cX4_save 31 = .ok (.bastore, 1) := by decide +kernel
theorem dX4_save_32 : decode cX4_save 32 = .ok (.aload_n 0, 1) := by decide +kernel
theorem dX4_save_33 : decode cX4_save 33 = .ok (.getfield 12, 3) := by decide +kernel
theorem dX4_save_36 : decode cX4_save 36 = .ok (.getfield 95, 3) := by decide +kernel
theorem dX4_save_39 : decode cX4_save 39 = .ok (.ireturn, 1) := by decide +kernel
set_option maxRecDepth 20000 in
theorem ggX4_restore_X4_isWithin : GoodIn wsX4_restore wsX4_isWithin := goodIn_r _ [9] (by decide +kernel) (by decide +kernel)
set_option maxRecDepth 20000 in
theorem gX4_restore_X4_isWithin : GoodIn wsX4_restore (va_wsS RX4 52 yX4_isWithin wsX4_isWithin) := goodIn_app (goodIn_of _ (by decide +kernel)) ggX4_restore_X4_isWithin
set_option maxRecDepth 20000 in
theorem ggX4_restore_X0_record : GoodIn wsX4_restore wsX0_record := goodIn_r _ [14, 15, 16, 17, 18, 19, 20, 21, 22, 23, 24, 25, 26, 27, 28, 29, 30, 31, 32, 33, 34, 35, 36, 37, 38, 39, 40, 63, 64, 65, 49, 50, 51, 52, 53, 54, 55, 56, 57, 58, 59, 60, 61, 62] (by decide +kernel) (by decide +kernel)
set_option maxRecDepth 20000 in
theorem gX4_restore_X0_record : GoodIn wsX4_restore (wsV RX4 56 RX0 yX0_record wsX0_record) := goodIn_app (goodIn_of _ (by decide +kernel)) ggX4_restore_X0_record
set_option maxRecDepth 20000 in
theorem ggX4_restore_X3_copyFrom : GoodIn wsX4_restore wsX3_copyFrom := goodIn_r _ [22, 23, 24, 25, 26, 27, 28, 29, 30, 31, 32, 33, 34, 35, 36, 37, 38, 39, 40, 49, 50, 51, 52, 53, 54, 55, 56, 57, 58, 59, 60, 61, 62] (by decide +kernel) (by decide +kernel)
set_option maxRecDepth 20000 in
theorem gX4_restore_X3_copyFrom : GoodIn wsX4_restore (wsV RX4 71 RX3 yX3_copyFrom wsX3_copyFrom) := goodIn_app (goodIn_of _ (by decide +kernel)) ggX4_restore_X3_copyFrom
theorem dX4_restore_0 : decode cX4_restore 0 = .ok (.iload_n 1, 1) := by decide +kernel
theorem dX4_restore_1 : decode cX4_restore 1 = .ok (.iconst 0, 1) := by decide +kernel
theorem dX4_restore_2 : decode cX4_restore 2 = .ok (.iconst 1, 1) := by decide +kernel
theorem dX4_restore_3 : decode cX4_restore 3 = .ok (.invokestatic 52, 3) := by decide +kernel
theorem dX4_restore_6 : decode cX4_restore 6 = .ok (.ifCond .ne 6, 3) := by decide +kernel
theorem dX4_restore_9 : decode cX4_restore 9 = .ok (.bipush (-2), 2) := by decide +kernel
theorem dX4_restore_11 : decode cX4_restore 11 = .ok (.ireturn, 1) := by decide +kernel
theorem dX4_restore_12 : decode cX4_restore 12 = .ok (.aload_n 0, 1) := by decide +kernel
theorem dX4_restore_13 : decode cX4_restore 13 = .ok (.getfield 44, 3) := by decide +kernel
theorem dX4_restore_16 : decode cX4_restore 16 = .ok (.iload_n 1, 1) := by decide +kernel
theorem dX4_restore_17 : decode cX4_restore 17 = .ok (.baload, 1) := by decide +kernel
theorem dX4_restore_18 : decode cX4_restore 18 = .ok (.ifCond .ne 6, 3) := by decide +kernel
theorem dX4_restore_21 : decode cX4_restore 21 = .ok (.bipush (-5), 2) := by decide +kernel
theorem dX4_restore_23 : decode cX4_restore 23 = .ok (.ireturn, 1) := by decide +kernel
theorem dX4_restore_24 : decode cX4_restore 24 = .ok (.aload_n 0, 1) := by decide +kernel
theorem dX4_restore_25 : decode cX4_restore 25 = .ok (.getfield 36, 3) := by decide +kernel
theorem dX4_restore_28 : decode cX4_restore 28 = .ok (.aload_n 0, 1) := by decide +kernel
theorem dX4_restore_29 : decode cX4_restore 29 = .ok (.getfield 12, 3) := by decide +kernel
theorem dX4_restore_32 : decode cX4_restore 32 = .ok (.invokevirtual 56, 3) := by decide +kernel
theorem dX4_restore_35 : decode cX4_restore 35 = .ok (.aload_n 0, 1) := by decide +kernel
theorem dX4_restore_36 : decode cX4_restore 36 = .ok (.getfield 12, 3) := by decide +kernel
theorem dX4_restore_39 : decode cX4_restore 39 = .ok (.aload_n 0, 1) := by decide +kernel
theorem dX4_restore_40 : decode cX4_restore 40 = .ok (.getfield 40, 3) := by decide +kernel
theorem dX4_restore_43 : decode cX4_restore 43 = .ok (.iload_n 1, 1) := by decide +kernel
theorem dX4_restore_44 : decode cX4_restore 44 = .ok (.aaload, 1) := by decide +kernel
theorem dX4_restore_45 : decode cX4_restore 45 = .ok (.invokevirtual 71, 3) := by decide +kernel
theorem dX4_restore_48 : decode cX4_restore 48 = .ok (.aload_n 0, 1) := by decide +kernel
theorem dX4_restore_49 : decode cX4_restore 49 = .ok (.getfield 12, 3) := by decide +kernel
theorem dX4_restore_52 : decode cX4_restore 52 = .ok (.getfield 95, 3) := by decide +kernel
theorem dX4_restore_55 : decode cX4_restore 55 = .ok (.ireturn, 1) := by decide +kernel
set_option maxRecDepth 20000 in
theorem ggX4_tryButtons_X3_copyFrom : GoodIn wsX4_tryButtons wsX3_copyFrom := goodIn_r _ [8, 9, 10, 11, 12, 13, 14, 15, 16, 17, 18, 19, 20, 21, 22, 23, 24, 25, 26, 34, 35, 36, 37, 38, 39, 40, 41, 42, 43, 44, 45, 46, 47] (by decide +kernel) (by decide +kernel)
set_option maxRecDepth 20000 in
theorem gX4_tryButtons_X3_copyFrom : GoodIn wsX4_tryButtons (wsV RX4 71 RX3 yX3_copyFrom wsX3_copyFrom) := goodIn_app (goodIn_of _ (by decide +kernel)) ggX4_tryButtons_X3_copyFrom
theorem dX4_tryButtons_0 : decode cX4_tryButtons 0 = .ok (.aload_n 0, 1) := by decide +kernel
theorem dX4_tryButtons_1 : decode cX4_tryButtons 1 = .ok (.getfield 16, 3) := by decide +kernel
theorem dX4_tryButtons_4 : decode cX4_tryButtons 4 = .ok (.aload_n 0, 1) := by decide +kernel
theorem dX4_tryButtons_5 : decode cX4_tryButtons 5 = .ok (.getfield 12, 3) := by decide +kernel
theorem dX4_tryButtons_8 : decode cX4_tryButtons 8 = .ok (.invokevirtual 71, 3) := by decide +kernel
theorem dX4_tryButtons_11 : decode cX4_tryButtons 11 = .ok (.aload_n 0, 1) := by decide +kernel
theorem dX4_tryButtons_12 : decode cX4_tryButtons 12 = .ok (.getfield 16, 3) := by decide +kernel
theorem dX4_tryButtons_15 : decode cX4_tryButtons 15 = .ok (.iload_n 1, 1) := by decide +kernel
theorem dX4_tryButtons_16 : decode cX4_tryButtons 16 = .ok (.putfield 85, 3) := by decide +kernel
theorem dX4_tryButtons_19 : decode cX4_tryButtons 19 = .ok (.return_, 1) := by decide +kernel
set_option maxRecDepth 20000 in
theorem ggX4_tryWelded_X4_tryButtons : GoodIn wsX4_tryWelded wsX4_tryButtons := goodIn_r _ [8, 1, 9, 10, 11, 12, 13, 14, 15, 16, 17, 18, 19, 20, 21, 22, 23, 24, 25, 26, 27, 28, 29, 30, 31, 32, 33, 34, 35, 36, 37, 38, 39, 40, 41, 42, 43, 44, 45, 46, 47, 48, 49, 50, 51, 52, 53, 54] (by decide +kernel) (by decide +kernel)
set_option maxRecDepth 20000 in
theorem gX4_tryWelded_X4_tryButtons : GoodIn wsX4_tryWelded (wsV RX4 164 RX4 yX4_tryButtons wsX4_tryButtons) := goodIn_app (goodIn_of _ (by decide +kernel)) ggX4_tryWelded_X4_tryButtons
theorem dX4_tryWelded_0 : decode cX4_tryWelded 0 = .ok (.aload_n 0, 1) := by decide +kernel
theorem dX4_tryWelded_1 : decode cX4_tryWelded 1 = .ok (.iconst 0, 1) := by decide +kernel
theorem dX4_tryWelded_2 : decode cX4_tryWelded 2 = .ok (.invokevirtual 164, 3) := by decide +kernel
theorem dX4_tryWelded_5 : decode cX4_tryWelded 5 = .ok (.aload_n 0, 1) := by decide +kernel
theorem dX4_tryWelded_6 : decode cX4_tryWelded 6 = .ok (.getfield 16, 3) := by decide +kernel
theorem dX4_tryWelded_9 : decode cX4_tryWelded 9 = .ok (.dup, 1) := by decide +kernel
theorem dX4_tryWelded_10 : decode cX4_tryWelded 10 = .ok (.getfield 95, 3) := by decide +kernel
theorem dX4_tryWelded_13 : decode cX4_tryWelded 13 = .ok (.iconst 1, 1) := by decide +kernel
theorem dX4_tryWelded_14 : decode cX4_tryWelded 14 = .ok (.iload_n 1, 1) := by decide +kernel
theorem dX4_tryWelded_15 : decode cX4_tryWelded 15 = .ok (.ishl, 1) := by decide +kernel
theorem dX4_tryWelded_16 : decode cX4_tryWelded 16 = .ok (.ior, 1) := by decide +kernel
theorem dX4_tryWelded_17 : decode cX4_tryWelded 17 = .ok (.putfield 95, 3) := by decide +kernel
theorem dX4_tryWelded_20 : decode cX4_tryWelded 20 = .ok (.aload_n 0, 1) := by decide +kernel
theorem dX4_tryWelded_21 : decode cX4_tryWelded 21 = .ok (.getfield 16, 3) := by decide +kernel
theorem dX4_tryWelded_24 : decode cX4_tryWelded 24 = .ok (.dup, 1) := by decide +kernel
theorem dX4_tryWelded_25 : decode cX4_tryWelded 25 = .ok (.getfield 98, 3) := by decide +kernel
theorem dX4_tryWelded_28 : decode cX4_tryWelded 28 = .ok (.iconst 1, 1) := by decide +kernel
theorem dX4_tryWelded_29 : decode cX4_tryWelded 29 = .ok (.iload_n 1, 1) := by decide +kernel
theorem dX4_tryWelded_30 : decode cX4_tryWelded 30 = .ok (.ishl, 1) := by decide +kernel
theorem dX4_tryWelded_31 : decode cX4_tryWelded 31 = .ok (.ior, 1) := by decide +kernel
theorem dX4_tryWelded_32 : decode cX4_tryWelded 32 = .ok (.putfield 98, 3) := by decide +kernel
theorem dX4_tryWelded_35 : decode cX4_tryWelded 35 = .ok (.return_, 1) := by decide +kernel
set_option maxRecDepth 20000 in
theorem ggX4_isUpIn_X4_isIn : GoodIn wsX4_isUpIn wsX4_isIn := goodIn_r _ [4, 5, 6, 3, 7] (by decide +kernel) (by decide +kernel)
set_option maxRecDepth 20000 in
theorem gX4_isUpIn_X4_isIn : GoodIn wsX4_isUpIn (va_wsS RX4 88 yX4_isIn wsX4_isIn) := goodIn_app (goodIn_of _ (by decide +kernel)) ggX4_isUpIn_X4_isIn
theorem dX4_isUpIn_0 : decode cX4_isUpIn 0 = .ok (.iload_n 0, 1) := by decide +kernel
theorem dX4_isUpIn_1 : decode cX4_isUpIn 1 = .ok (.bipush (-6), 2) := by decide +kernel
theorem dX4_isUpIn_3 : decode cX4_isUpIn 3 = .ok (.if_icmp .eq 15, 3) := by decide +kernel
theorem dX4_isUpIn_6 : decode cX4_isUpIn 6 = .ok (.iload_n 0, 1) := by decide +kernel
theorem dX4_isUpIn_7 : decode cX4_isUpIn 7 = .ok (.iload_n 1, 1) := by decide +kernel
theorem dX4_isUpIn_8 : decode cX4_isUpIn 8 = .ok (.invokestatic 88, 3) := by decide +kernel
theorem dX4_isUpIn_11 : decode cX4_isUpIn 11 = .ok (.ifCond .eq 7, 3) := by decide +kernel
theorem dX4_isUpIn_14 : decode cX4_isUpIn 14 = .ok (.iconst 1, 1) := by decide +kernel
theorem dX4_isUpIn_15 : decode cX4_isUpIn 15 = .ok (.goto 4, 3) := by decide +kernel
theorem dX4_isUpIn_18 : decode cX4_isUpIn 18 = .ok (.iconst 0, 1) := by decide +kernel
theorem dX4_isUpIn_19 : decode cX4_isUpIn 19 = .ok (.ireturn, 1) := by decide +kernel
set_option maxRecDepth 20000 in
theorem ggX4_isRelay_X4_isWithin : GoodIn wsX4_isRelay wsX4_isWithin := goodIn_r _ [4] (by decide +kernel) (by decide +kernel)
set_option maxRecDepth 20000 in
theorem gX4_isRelay_X4_isWithin : GoodIn wsX4_isRelay (va_wsS RX4 52 yX4_isWithin wsX4_isWithin) := goodIn_app (goodIn_of _ (by decide +kernel)) ggX4_isRelay_X4_isWithin
theorem dX4_isRelay_0 : decode cX4_isRelay 0 = .ok (.iload_n 0, 1) := by decide +kernel
theorem dX4_isRelay_1 : decode cX4_isRelay 1 = .ok (.iconst 0, 1) := by decide +kernel
theorem dX4_isRelay_2 : decode cX4_isRelay 2 = .ok (.bipush 9, 2) := by decide +kernel
theorem dX4_isRelay_4 : decode cX4_isRelay 4 = .ok (.invokestatic 52, 3) := by decide +kernel
theorem dX4_isRelay_7 : decode cX4_isRelay 7 = .ok (.ireturn, 1) := by decide +kernel
set_option maxRecDepth 20000 in
theorem ggX4_isButtonSet_X4_isWithin : GoodIn wsX4_isButtonSet wsX4_isWithin := goodIn_r _ [4] (by decide +kernel) (by decide +kernel)
set_option maxRecDepth 20000 in
theorem gX4_isButtonSet_X4_isWithin : GoodIn wsX4_isButtonSet (va_wsS RX4 52 yX4_isWithin wsX4_isWithin) := goodIn_app (goodIn_of _ (by decide +kernel)) ggX4_isButtonSet_X4_isWithin
theorem dX4_isButtonSet_0 : decode cX4_isButtonSet 0 = .ok (.iload_n 0, 1) := by decide +kernel
theorem dX4_isButtonSet_1 : decode cX4_isButtonSet 1 = .ok (.iconst 0, 1) := by decide +kernel
theorem dX4_isButtonSet_2 : decode cX4_isButtonSet 2 = .ok (.bipush 63, 2) := by decide +kernel
theorem dX4_isButtonSet_4 : decode cX4_isButtonSet 4 = .ok (.invokestatic 52, 3) := by decide +kernel
theorem dX4_isButtonSet_7 : decode cX4_isButtonSet 7 = .ok (.ireturn, 1) := by decide +kernel
theorem dX4_isWithin_0 : decode cX4_isWithin 0 = .ok (.iload_n 0, 1) := by decide +kernel
theorem dX4_isWithin_1 : decode cX4_isWithin 1 = .ok (.iload_n 1, 1) := by decide +kernel
theorem dX4_isWithin_2 : decode cX4_isWithin 2 = .ok (.if_icmp .lt 12, 3) := by decide +kernel
theorem dX4_isWithin_5 : decode cX4_isWithin 5 = .ok (.iload_n 0, 1) := by decide +kernel
theorem dX4_isWithin_6 : decode cX4_isWithin 6 = .ok (.iload_n 2, 1) := by decide +kernel
theorem dX4_isWithin_7 : decode cX4_isWithin 7 = .ok (.if_icmp .gt 7, 3) := by decide +kernel
theorem dX4_isWithin_10 : decode cX4_isWithin 10 = .ok (.iconst 1, 1) := by decide +kernel
theorem dX4_isWithin_11 : decode cX4_isWithin 11 = .ok (.goto 4, 3) := by decide +kernel
theorem dX4_isWithin_14 : decode cX4_isWithin 14 = .ok (.iconst 0, 1) := by decide +kernel
theorem dX4_isWithin_15 : decode cX4_isWithin 15 = .ok (.ireturn, 1) := by decide +kernel
set_option maxRecDepth 20000 in
theorem ggX4_isIn_X4_bit : GoodIn wsX4_isIn wsX4_bit := goodIn_r _ [4] (by decide +kernel) (by decide +kernel)
set_option maxRecDepth 20000 in
theorem gX4_isIn_X4_bit : GoodIn wsX4_isIn (va_wsS RX4 114 yX4_bit wsX4_bit) := goodIn_app (goodIn_of _ (by decide +kernel)) ggX4_isIn_X4_bit
theorem dX4_isIn_0 : decode cX4_isIn 0 = .ok (.iload_n 0, 1) := by decide +kernel
theorem dX4_isIn_1 : decode cX4_isIn 1 = .ok (.iload_n 1, 1) := by decide +kernel
theorem dX4_isIn_2 : decode cX4_isIn 2 = .ok (.invokestatic 114, 3) := by decide +kernel
theorem dX4_isIn_5 : decode cX4_isIn 5 = .ok (.iconst 1, 1) := by decide +kernel
theorem dX4_isIn_6 : decode cX4_isIn 6 = .ok (.if_icmp .ne 7, 3) := by decide +kernel
theorem dX4_isIn_9 : decode cX4_isIn 9 = .ok (.iconst 1, 1) := by decide +kernel
theorem dX4_isIn_10 : decode cX4_isIn 10 = .ok (.goto 4, 3) := by decide +kernel
theorem dX4_isIn_13 : decode cX4_isIn 13 = .ok (.iconst 0, 1) := by decide +kernel
theorem dX4_isIn_14 : decode cX4_isIn 14 = .ok (.ireturn, 1) := by decide +kernel
theorem dX4_bit_0 : decode cX4_bit 0 = .ok (.iload_n 0, 1) := by decide +kernel
theorem dX4_bit_1 : decode cX4_bit 1 = .ok (.iload_n 1, 1) := by decide +kernel
theorem dX4_bit_2 : decode cX4_bit 2 = .ok (.ishr, 1) := by decide +kernel
theorem dX4_bit_3 : decode cX4_bit 3 = .ok (.iconst 1, 1) := by decide +kernel
theorem dX4_bit_4 : decode cX4_bit 4 = .ok (.iand, 1) := by decide +kernel
theorem dX4_bit_5 : decode cX4_bit 5 = .ok (.ireturn, 1) := by decide +kernel
theorem dX4_placeOf_0 : decode cX4_placeOf 0 = .ok (.iload_n 0, 1) := by decide +kernel
theorem dX4_placeOf_1 : decode cX4_placeOf 1 = .ok (.bipush 6, 2) := by decide +kernel
theorem dX4_placeOf_3 : decode cX4_placeOf 3 = .ok (.imul, 1) := by decide +kernel
theorem dX4_placeOf_4 : decode cX4_placeOf 4 = .ok (.iload_n 1, 1) := by decide +kernel
theorem dX4_placeOf_5 : decode cX4_placeOf 5 = .ok (.iadd, 1) := by decide +kernel
theorem dX4_placeOf_6 : decode cX4_placeOf 6 = .ok (.ireturn, 1) := by decide +kernel
set_option maxRecDepth 20000 in
theorem ggX5_init_X5_setPart : GoodIn wsX5_init wsX5_setPart := goodIn_r _ [16, 5, 17, 18, 19, 20, 21, 22, 23, 24, 25, 26, 27, 28] (by decide +kernel) (by decide +kernel)
set_option maxRecDepth 20000 in
theorem gX5_init_X5_setPart : GoodIn wsX5_init (wsV RX5 31 RX5 yX5_setPart wsX5_setPart) := goodIn_app (goodIn_of _ (by decide +kernel)) ggX5_init_X5_setPart
theorem dX5_init_0 : decode cX5_init 0 = .ok (.aload_n 0, 1) := by decide +kernel
theorem dX5_init_1 : decode cX5_init 1 = .ok (.invokespecial 1, 3) := by decide +kernel
theorem dX5_init_4 : decode cX5_init 4 = .ok (.aload_n 0, 1) := by decide +kernel
theorem dX5_init_5 : decode cX5_init 5 = .ok (.sipush 236, 3) := by decide +kernel
theorem dX5_init_8 : decode cX5_init 8 = .ok (.newarray .int, 2) := by decide +kernel
theorem dX5_init_10 : decode cX5_init 10 = .ok (.putfield 7, 3) := by decide +kernel
theorem dX5_init_13 : decode cX5_init 13 = .ok (.aload_n 0, 1) := by decide +kernel
theorem dX5_init_14 : decode cX5_init 14 = .ok (.sipush 236, 3) := by decide +kernel
theorem dX5_init_17 : decode cX5_init 17 = .ok (.newarray .int, 2) := by decide +kernel
theorem dX5_init_19 : decode cX5_init 19 = .ok (.putfield 13, 3) := by decide +kernel
theorem dX5_init_22 : decode cX5_init 22 = .ok (.aload_n 0, 1) := by decide +kernel
theorem dX5_init_23 : decode cX5_init 23 = .ok (.sipush 1416, 3) := by decide +kernel
theorem dX5_init_26 : decode cX5_init 26 = .ok (.newarray .int, 2) := by decide +kernel
theorem dX5_init_28 : decode cX5_init 28 = .ok (.putfield 16, 3) := by decide +kernel
theorem dX5_init_31 : decode cX5_init 31 = .ok (.aload_n 0, 1) := by decide +kernel
theorem dX5_init_32 : decode cX5_init 32 = .ok (.sipush 472, 3) := by decide +kernel
theorem dX5_init_35 : decode cX5_init 35 = .ok (.newarray .int, 2) := by decide +kernel
theorem dX5_init_37 : decode cX5_init 37 = .ok (.putfield 19, 3) := by decide +kernel
theorem dX5_init_40 : decode cX5_init 40 = .ok (.aload_n 0, 1) := by decide +kernel
theorem dX5_init_41 : decode cX5_init 41 = .ok (.iconst 2, 1) := by decide +kernel
theorem dX5_init_42 : decode cX5_init 42 = .ok (.newarray .int, 2) := by decide +kernel
theorem dX5_init_44 : decode cX5_init 44 = .ok (.putfield 22, 3) := by decide +kernel
theorem dX5_init_47 : decode cX5_init 47 = .ok (.aload_n 0, 1) := by decide +kernel
theorem dX5_init_48 : decode cX5_init 48 = .ok (.bipush 64, 2) := by decide +kernel
theorem dX5_init_50 : decode cX5_init 50 = .ok (.newarray .int, 2) := by decide +kernel
theorem dX5_init_52 : decode cX5_init 52 = .ok (.putfield 25, 3) := by decide +kernel
theorem dX5_init_55 : decode cX5_init 55 = .ok (.aload_n 0, 1) := by decide +kernel
theorem dX5_init_56 : decode cX5_init 56 = .ok (.bipush 18, 2) := by decide +kernel
theorem dX5_init_58 : decode cX5_init 58 = .ok (.newarray .int, 2) := by decide +kernel
theorem dX5_init_60 : decode cX5_init 60 = .ok (.putfield 28, 3) := by decide +kernel
theorem dX5_init_63 : decode cX5_init 63 = .ok (.iconst 0, 1) := by decide +kernel
theorem dX5_init_64 : decode cX5_init 64 = .ok (.istore_n 1, 1) := by decide +kernel
theorem dX5_init_65 : decode cX5_init 65 = .ok (.iload_n 1, 1) := by decide +kernel
theorem dX5_init_66 : decode cX5_init 66 = .ok (.bipush 10, 2) := by decide +kernel
theorem dX5_init_68 : decode cX5_init 68 = .ok (.if_icmp .ge 23, 3) := by decide +kernel
theorem dX5_init_71 : decode cX5_init 71 = .ok (.aload_n 0, 1) := by decide +kernel
theorem dX5_init_72 : decode cX5_init 72 = .ok (.iload_n 1, 1) := by decide +kernel
theorem dX5_init_73 : decode cX5_init 73 = .ok (.iconst 0, 1) := by decide +kernel
theorem dX5_init_74 : decode cX5_init 74 = .ok (.iconst 2, 1) := by decide +kernel
theorem dX5_init_75 : decode cX5_init 75 = .ok (.invokevirtual 31, 3) := by decide +kernel
theorem dX5_init_78 : decode cX5_init 78 = .ok (.aload_n 0, 1) := by decide +kernel
theorem dX5_init_79 : decode cX5_init 79 = .ok (.iload_n 1, 1) := by decide +kernel
theorem dX5_init_80 : decode cX5_init 80 = .ok (.iconst 1, 1) := by decide +kernel
theorem dX5_init_81 : decode cX5_init 81 = .ok (.iconst 1, 1) := by decide +kernel
theorem dX5_init_82 : decode cX5_init 82 = .ok (.invokevirtual 31, 3) := by decide +kernel
theorem dX5_init_85 : decode cX5_init 85 = .ok (.iinc 1 1, 3) := by decide +kernel
theorem dX5_init_88 : decode cX5_init 88 = .ok (.goto (-23), 3) := by decide +kernel
theorem dX5_init_91 : decode cX5_init 91 = .ok (.return_, 1) := by decide +kernel
theorem dX5_moves_0 : decode cX5_moves 0 = .ok (.iconst 0, 1) := by decide +kernel
theorem dX5_moves_1 : decode cX5_moves 1 = .ok (.istore 4, 2) := by decide +kernel
theorem dX5_moves_3 : decode cX5_moves 3 = .ok (.iload 4, 2) := by decide +kernel
theorem dX5_moves_5 : decode cX5_moves 5 = .ok (.sipush 236, 3) := by decide +kernel
theorem dX5_moves_8 : decode cX5_moves 8 = .ok (.if_icmp .ge 21, 3) := by decide +kernel
theorem dX5_moves_11 : decode cX5_moves 11 = .ok (.aload_n 2, 1) := by decide +kernel
theorem dX5_moves_12 : decode cX5_moves 12 = .ok (.iload_n 3, 1) := by decide +kernel
theorem dX5_moves_13 : decode cX5_moves 13 = .ok (.iload 4, 2) := by decide +kernel
theorem dX5_moves_15 : decode cX5_moves 15 = .ok (.iadd, 1) := by decide +kernel
theorem dX5_moves_16 : decode cX5_moves 16 = .ok (.aload_n 0, 1) := by decide +kernel
theorem dX5_moves_17 : decode cX5_moves 17 = .ok (.iload_n 1, 1) := by decide +kernel
theorem dX5_moves_18 : decode cX5_moves 18 = .ok (.iload 4, 2) := by decide +kernel
theorem dX5_moves_20 : decode cX5_moves 20 = .ok (.iadd, 1) := by decide +kernel
theorem dX5_moves_21 : decode cX5_moves 21 = .ok (.iaload, 1) := by decide +kernel
theorem dX5_moves_22 : decode cX5_moves 22 = .ok (.iastore, 1) := by decide +kernel
theorem dX5_moves_23 : decode cX5_moves 23 = .ok (.iinc 4 1, 3) := by decide +kernel
theorem dX5_moves_26 : decode cX5_moves 26 = .ok (.goto (-23), 3) := by decide +kernel
theorem dX5_moves_29 : decode cX5_moves 29 = .ok (.return_, 1) := by decide +kernel
theorem dX5_within_0 : decode cX5_within 0 = .ok (.iload_n 0, 1) := by decide +kernel
theorem dX5_within_1 : decode cX5_within 1 = .ok (.iload_n 1, 1) := by decide +kernel
theorem dX5_within_2 : decode cX5_within 2 = .ok (.if_icmp .lt 12, 3) := by decide +kernel
theorem dX5_within_5 : decode cX5_within 5 = .ok (.iload_n 0, 1) := by decide +kernel
theorem dX5_within_6 : decode cX5_within 6 = .ok (.iload_n 2, 1) := by decide +kernel
theorem dX5_within_7 : decode cX5_within 7 = .ok (.if_icmp .gt 7, 3) := by decide +kernel
theorem dX5_within_10 : decode cX5_within 10 = .ok (.iconst 1, 1) := by decide +kernel
theorem dX5_within_11 : decode cX5_within 11 = .ok (.goto 4, 3) := by decide +kernel
theorem dX5_within_14 : decode cX5_within 14 = .ok (.iconst 0, 1) := by decide +kernel
theorem dX5_within_15 : decode cX5_within 15 = .ok (.ireturn, 1) := by decide +kernel
set_option maxRecDepth 20000 in
theorem ggX5_record_X5_moves : GoodIn wsX5_record wsX5_moves := goodIn_r _ [7] (by decide +kernel) (by decide +kernel)
set_option maxRecDepth 20000 in
theorem gX5_record_X5_moves : GoodIn wsX5_record (va_wsS RX5 39 yX5_moves wsX5_moves) := goodIn_app (goodIn_of _ (by decide +kernel)) ggX5_record_X5_moves
theorem dX5_record_0 : decode cX5_record 0 = .ok (.aload_n 0, 1) := by decide +kernel
theorem dX5_record_1 : decode cX5_record 1 = .ok (.getfield 35, 3) := by decide +kernel
theorem dX5_record_4 : decode cX5_record 4 = .ok (.bipush 6, 2) := by decide +kernel
theorem dX5_record_6 : decode cX5_record 6 = .ok (.if_icmp .ne 44, 3) := by decide +kernel
theorem dX5_record_9 : decode cX5_record 9 = .ok (.iconst 0, 1) := by decide +kernel
theorem dX5_record_10 : decode cX5_record 10 = .ok (.istore_n 1, 1) := by decide +kernel
theorem dX5_record_11 : decode cX5_record 11 = .ok (.iload_n 1, 1) := by decide +kernel
theorem dX5_record_12 : decode cX5_record 12 = .ok (.sipush 1180, 3) := by decide +kernel
theorem dX5_record_15 : decode cX5_record 15 = .ok (.if_icmp .ge 25, 3) := by decide +kernel
theorem dX5_record_18 : decode cX5_record 18 = .ok (.aload_n 0, 1) := by decide +kernel
theorem dX5_record_19 : decode cX5_record 19 = .ok (.getfield 16, 3) := by decide +kernel
theorem dX5_record_22 : decode cX5_record 22 = .ok (.iload_n 1, 1) := by decide +kernel
theorem dX5_record_23 : decode cX5_record 23 = .ok (.aload_n 0, 1) := by decide +kernel
theorem dX5_record_24 : decode cX5_record 24 = .ok (.getfield 16, 3) := by decide +kernel
theorem dX5_record_27 : decode cX5_record 27 = .ok (.iload_n 1, 1) := by decide +kernel
theorem dX5_record_28 : decode cX5_record 28 = .ok (.sipush 236, 3) := by decide +kernel
theorem dX5_record_31 : decode cX5_record 31 = .ok (.iadd, 1) := by decide +kernel
theorem dX5_record_32 : decode cX5_record 32 = .ok (.iaload, 1) := by decide +kernel
theorem dX5_record_33 : decode cX5_record 33 = .ok (.iastore, 1) := by decide +kernel
theorem dX5_record_34 : decode cX5_record 34 = .ok (.iinc 1 1, 3) := by decide +kernel
theorem dX5_record_37 : decode cX5_record 37 = .ok (.goto (-26), 3) := by decide +kernel
theorem dX5_record_40 : decode cX5_record 40 = .ok (.aload_n 0, 1) := by decide +kernel
theorem dX5_record_41 : decode cX5_record 41 = .ok (.dup, 1) := by decide +kernel
theorem dX5_record_42 : decode cX5_record 42 = .ok (.getfield 35, 3) := by decide +kernel
theorem dX5_record_45 : decode cX5_record 45 = .ok (.iconst 1, 1) := by decide +kernel
theorem dX5_record_46 : decode cX5_record 46 = .ok (.isub, 1) := by decide +kernel
theorem dX5_record_47 : decode cX5_record 47 = .ok (.putfield 35, 3) := by decide +kernel
theorem dX5_record_50 : decode cX5_record 50 = .ok (.aload_n 0, 1) := by decide +kernel
theorem dX5_record_51 : decode cX5_record 51 = .ok (.getfield 7, 3) := by decide +kernel
theorem dX5_record_54 : decode cX5_record 54 = .ok (.iconst 0, 1) := by decide +kernel
theorem dX5_record_55 : decode cX5_record 55 = .ok (.aload_n 0, 1) := by decide +kernel
theorem dX5_record_56 : decode cX5_record 56 = .ok (.getfield 16, 3) := by decide +kernel
theorem dX5_record_59 : decode cX5_record 59 = .ok (.aload_n 0, 1) := by decide +kernel
theorem dX5_record_60 : decode cX5_record 60 = .ok (.getfield 35, 3) := by decide +kernel
theorem dX5_record_63 : decode cX5_record 63 = .ok (.sipush 236, 3) := by decide +kernel
theorem dX5_record_66 : decode cX5_record 66 = .ok (.imul, 1) := by decide +kernel
theorem dX5_record_67 : decode cX5_record 67 = .ok (.invokestatic 39, 3) := by decide +kernel
theorem dX5_record_70 : decode cX5_record 70 = .ok (.aload_n 0, 1) := by decide +kernel
theorem dX5_record_71 : decode cX5_record 71 = .ok (.dup, 1) := by decide +kernel
theorem dX5_record_72 : decode cX5_record 72 = .ok (.getfield 35, 3) := by decide +kernel
theorem dX5_record_75 : decode cX5_record 75 = .ok (.iconst 1, 1) := by decide +kernel
theorem dX5_record_76 : decode cX5_record 76 = .ok (.iadd, 1) := by decide +kernel
theorem dX5_record_77 : decode cX5_record 77 = .ok (.putfield 35, 3) := by decide +kernel
theorem dX5_record_80 : decode cX5_record 80 = .ok (.return_, 1) := by decide +kernel
set_option maxRecDepth 20000 in
theorem ggX5_isRelay_X5_within : GoodIn wsX5_isRelay wsX5_within := goodIn_r _ [4] (by decide +kernel) (by decide +kernel)
set_option maxRecDepth 20000 in
theorem gX5_isRelay_X5_within : GoodIn wsX5_isRelay (va_wsS RX5 43 yX5_within wsX5_within) := goodIn_app (goodIn_of _ (by decide +kernel)) ggX5_isRelay_X5_within
theorem dX5_isRelay_0 : decode cX5_isRelay 0 = .ok (.iload_n 0, 1) := by decide +kernel
theorem dX5_isRelay_1 : decode cX5_isRelay 1 = .ok (.iconst 0, 1) := by decide +kernel
theorem dX5_isRelay_2 : decode cX5_isRelay 2 = .ok (.bipush 9, 2) := by decide +kernel
theorem dX5_isRelay_4 : decode cX5_isRelay 4 = .ok (.invokestatic 43, 3) := by decide +kernel
theorem dX5_isRelay_7 : decode cX5_isRelay 7 = .ok (.ireturn, 1) := by decide +kernel
theorem dX5_part_0 : decode cX5_part 0 = .ok (.aload_n 0, 1) := by decide +kernel
theorem dX5_part_1 : decode cX5_part 1 = .ok (.getfield 7, 3) := by decide +kernel
theorem dX5_part_4 : decode cX5_part 4 = .ok (.bipush 6, 2) := by decide +kernel
theorem dX5_part_6 : decode cX5_part 6 = .ok (.bipush 23, 2) := by decide +kernel
theorem dX5_part_8 : decode cX5_part 8 = .ok (.iload_n 1, 1) := by decide +kernel
theorem dX5_part_9 : decode cX5_part 9 = .ok (.imul, 1) := by decide +kernel
theorem dX5_part_10 : decode cX5_part 10 = .ok (.iadd, 1) := by decide +kernel
theorem dX5_part_11 : decode cX5_part 11 = .ok (.iload_n 2, 1) := by decide +kernel
theorem dX5_part_12 : decode cX5_part 12 = .ok (.iadd, 1) := by decide +kernel
theorem dX5_part_13 : decode cX5_part 13 = .ok (.iaload, 1) := by decide +kernel
theorem dX5_part_14 : decode cX5_part 14 = .ok (.ireturn, 1) := by decide +kernel
theorem dX5_setPart_0 : decode cX5_setPart 0 = .ok (.aload_n 0, 1) := by decide +kernel
theorem dX5_setPart_1 : decode cX5_setPart 1 = .ok (.getfield 7, 3) := by decide +kernel
theorem dX5_setPart_4 : decode cX5_setPart 4 = .ok (.bipush 6, 2) := by decide +kernel
theorem dX5_setPart_6 : decode cX5_setPart 6 = .ok (.bipush 23, 2) := by decide +kernel
theorem dX5_setPart_8 : decode cX5_setPart 8 = .ok (.iload_n 1, 1) := by decide +kernel
theorem dX5_setPart_9 : decode cX5_setPart 9 = .ok (.imul, 1) := by decide +kernel
theorem dX5_setPart_10 : decode cX5_setPart 10 = .ok (.iadd, 1) := by decide +kernel
theorem dX5_setPart_11 : decode cX5_setPart 11 = .ok (.iload_n 2, 1) := by decide +kernel
theorem dX5_setPart_12 : decode cX5_setPart 12 = .ok (.iadd, 1) := by decide +kernel
theorem dX5_setPart_13 : decode cX5_setPart 13 = .ok (.iload_n 3, 1) := by decide +kernel
theorem dX5_setPart_14 : decode cX5_setPart 14 = .ok (.iastore, 1) := by decide +kernel
theorem dX5_setPart_15 : decode cX5_setPart 15 = .ok (.return_, 1) := by decide +kernel
theorem dX5_has_0 : decode cX5_has 0 = .ok (.iload_n 0, 1) := by decide +kernel
theorem dX5_has_1 : decode cX5_has 1 = .ok (.iload_n 1, 1) := by decide +kernel
theorem dX5_has_2 : decode cX5_has 2 = .ok (.ishr, 1) := by decide +kernel
theorem dX5_has_3 : decode cX5_has 3 = .ok (.iconst 1, 1) := by decide +kernel
theorem dX5_has_4 : decode cX5_has 4 = .ok (.iand, 1) := by decide +kernel
theorem dX5_has_5 : decode cX5_has 5 = .ok (.iconst 1, 1) := by decide +kernel
theorem dX5_has_6 : decode cX5_has 6 = .ok (.if_icmp .ne 7, 3) := by decide +kernel
theorem dX5_has_9 : decode cX5_has 9 = .ok (.iconst 1, 1) := by decide +kernel
theorem dX5_has_10 : decode cX5_has 10 = .ok (.goto 4, 3) := by decide +kernel
theorem dX5_has_13 : decode cX5_has 13 = .ok (.iconst 0, 1) := by decide +kernel
theorem dX5_has_14 : decode cX5_has 14 = .ok (.ireturn, 1) := by decide +kernel
set_option maxRecDepth 20000 in
theorem ggX5_ofBranch_X5_part : GoodIn wsX5_ofBranch wsX5_part := goodIn_r _ [5, 6, 7, 8, 9, 10, 11, 12, 13, 14, 15, 16, 17, 18] (by decide +kernel) (by decide +kernel)
set_option maxRecDepth 20000 in
theorem gX5_ofBranch_X5_part : GoodIn wsX5_ofBranch (wsV RX5 47 RX5 yX5_part wsX5_part) := goodIn_app (goodIn_of _ (by decide +kernel)) ggX5_ofBranch_X5_part
theorem dX5_ofBranch_0 : decode cX5_ofBranch 0 = .ok (.aload_n 0, 1) := by decide +kernel
theorem dX5_ofBranch_1 : decode cX5_ofBranch 1 = .ok (.iload_n 1, 1) := by decide +kernel
theorem dX5_ofBranch_2 : decode cX5_ofBranch 2 = .ok (.iconst 5, 1) := by decide +kernel
theorem dX5_ofBranch_3 : decode cX5_ofBranch 3 = .ok (.iconst 3, 1) := by decide +kernel
theorem dX5_ofBranch_4 : decode cX5_ofBranch 4 = .ok (.iload_n 2, 1) := by decide +kernel
theorem dX5_ofBranch_5 : decode cX5_ofBranch 5 = .ok (.imul, 1) := by decide +kernel
theorem dX5_ofBranch_6 : decode cX5_ofBranch 6 = .ok (.iadd, 1) := by decide +kernel
theorem dX5_ofBranch_7 : decode cX5_ofBranch 7 = .ok (.iload_n 3, 1) := by decide +kernel
theorem dX5_ofBranch_8 : decode cX5_ofBranch 8 = .ok (.iadd, 1) := by decide +kernel
theorem dX5_ofBranch_9 : decode cX5_ofBranch 9 = .ok (.invokevirtual 47, 3) := by decide +kernel
theorem dX5_ofBranch_12 : decode cX5_ofBranch 12 = .ok (.ireturn, 1) := by decide +kernel
set_option maxRecDepth 20000 in
theorem ggX5_isClosed_X5_ofBranch : GoodIn wsX5_isClosed wsX5_ofBranch := goodIn_r _ [6, 7, 8, 9, 5, 10, 1, 11, 12, 13, 14, 15, 16, 17, 18, 19, 20, 21, 22] (by decide +kernel) (by decide +kernel)
set_option maxRecDepth 20000 in
theorem gX5_isClosed_X5_ofBranch : GoodIn wsX5_isClosed (wsV RX5 51 RX5 yX5_ofBranch wsX5_ofBranch) := goodIn_app (goodIn_of _ (by decide +kernel)) ggX5_isClosed_X5_ofBranch
theorem dX5_isClosed_0 : decode cX5_isClosed 0 = .ok (.aload_n 0, 1) := by decide +kernel
theorem dX5_isClosed_1 : decode cX5_isClosed 1 = .ok (.getfield 7, 3) := by decide +kernel
theorem dX5_isClosed_4 : decode cX5_isClosed 4 = .ok (.iconst 0, 1) := by decide +kernel
theorem dX5_isClosed_5 : decode cX5_isClosed 5 = .ok (.iaload, 1) := by decide +kernel
theorem dX5_isClosed_6 : decode cX5_isClosed 6 = .ok (.aload_n 0, 1) := by decide +kernel
theorem dX5_isClosed_7 : decode cX5_isClosed 7 = .ok (.getfield 7, 3) := by decide +kernel
theorem dX5_isClosed_10 : decode cX5_isClosed 10 = .ok (.iconst 2, 1) := by decide +kernel
theorem dX5_isClosed_11 : decode cX5_isClosed 11 = .ok (.iaload, 1) := by decide +kernel
theorem dX5_isClosed_12 : decode cX5_isClosed 12 = .ok (.bipush 10, 2) := by decide +kernel
theorem dX5_isClosed_14 : decode cX5_isClosed 14 = .ok (.ishl, 1) := by decide +kernel
theorem dX5_isClosed_15 : decode cX5_isClosed 15 = .ok (.ior, 1) := by decide +kernel
theorem dX5_isClosed_16 : decode cX5_isClosed 16 = .ok (.istore_n 3, 1) := by decide +kernel
theorem dX5_isClosed_17 : decode cX5_isClosed 17 = .ok (.aload_n 0, 1) := by decide +kernel
theorem dX5_isClosed_18 : decode cX5_isClosed 18 = .ok (.iload_n 1, 1) := by decide +kernel
theorem dX5_isClosed_19 : decode cX5_isClosed 19 = .ok (.iload_n 2, 1) := by decide +kernel
theorem dX5_isClosed_20 : decode cX5_isClosed 20 = .ok (.iconst 0, 1) := by decide +kernel
theorem dX5_isClosed_21 : decode cX5_isClosed 21 = .ok (.invokevirtual 51, 3) := by decide +kernel
theorem dX5_isClosed_24 : decode cX5_isClosed 24 = .ok (.iload_n 3, 1) := by decide +kernel
theorem dX5_isClosed_25 : decode cX5_isClosed 25 = .ok (.iconst (-1), 1) := by decide +kernel
theorem dX5_isClosed_26 : decode cX5_isClosed 26 = .ok (.ixor, 1) := by decide +kernel
theorem dX5_isClosed_27 : decode cX5_isClosed 27 = .ok (.iand, 1) := by decide +kernel
theorem dX5_isClosed_28 : decode cX5_isClosed 28 = .ok (.ifCond .ne 19, 3) := by decide +kernel
theorem dX5_isClosed_31 : decode cX5_isClosed 31 = .ok (.aload_n 0, 1) := by decide +kernel
theorem dX5_isClosed_32 : decode cX5_isClosed 32 = .ok (.iload_n 1, 1) := by decide +kernel
theorem dX5_isClosed_33 : decode cX5_isClosed 33 = .ok (.iload_n 2, 1) := by decide +kernel
theorem dX5_isClosed_34 : decode cX5_isClosed 34 = .ok (.iconst 1, 1) := by decide +kernel
theorem dX5_isClosed_35 : decode cX5_isClosed 35 = .ok (.invokevirtual 51, 3) := by decide +kernel
theorem dX5_isClosed_38 : decode cX5_isClosed 38 = .ok (.iload_n 3, 1) := by decide +kernel
theorem dX5_isClosed_39 : decode cX5_isClosed 39 = .ok (.iand, 1) := by decide +kernel
theorem dX5_isClosed_40 : decode cX5_isClosed 40 = .ok (.ifCond .ne 7, 3) := by decide +kernel
theorem dX5_isClosed_43 : decode cX5_isClosed 43 = .ok (.iconst 1, 1) := by decide +kernel
theorem dX5_isClosed_44 : decode cX5_isClosed 44 = .ok (.goto 4, 3) := by decide +kernel
theorem dX5_isClosed_47 : decode cX5_isClosed 47 = .ok (.iconst 0, 1) := by decide +kernel
theorem dX5_isClosed_48 : decode cX5_isClosed 48 = .ok (.ireturn, 1) := by decide +kernel
set_option maxRecDepth 20000 in
theorem ggX5_isFed_X5_part : GoodIn wsX5_isFed wsX5_part := goodIn_r _ [5, 6, 15, 16, 17, 18, 19, 20, 21, 22, 23, 24, 25, 26] (by decide +kernel) (by decide +kernel)
set_option maxRecDepth 20000 in
theorem gX5_isFed_X5_part : GoodIn wsX5_isFed (wsV RX5 47 RX5 yX5_part wsX5_part) := goodIn_app (goodIn_of _ (by decide +kernel)) ggX5_isFed_X5_part
set_option maxRecDepth 20000 in
theorem ggX5_isFed_X5_isClosed : GoodIn wsX5_isFed wsX5_isClosed := goodIn_r _ [10, 6, 11, 12, 13, 4, 14, 1, 2, 3, 5, 15, 16, 17, 18, 19, 20, 21, 22, 23, 24, 25, 26] (by decide +kernel) (by decide +kernel)
set_option maxRecDepth 20000 in
theorem gX5_isFed_X5_isClosed : GoodIn wsX5_isFed (wsV RX5 55 RX5 yX5_isClosed wsX5_isClosed) := goodIn_app (goodIn_of _ (by decide +kernel)) ggX5_isFed_X5_isClosed
theorem dX5_isFed_0 : decode cX5_isFed 0 = .ok (.iconst 0, 1) := by decide +kernel
theorem dX5_isFed_1 : decode cX5_isFed 1 = .ok (.istore_n 2, 1) := by decide +kernel
theorem dX5_isFed_2 : decode cX5_isFed 2 = .ok (.iconst 0, 1) := by decide +kernel
theorem dX5_isFed_3 : decode cX5_isFed 3 = .ok (.istore_n 3, 1) := by decide +kernel
theorem dX5_isFed_4 : decode cX5_isFed 4 = .ok (.iload_n 3, 1) := by decide +kernel
theorem dX5_isFed_5 : decode cX5_isFed 5 = .ok (.aload_n 0, 1) := by decide +kernel
theorem dX5_isFed_6 : decode cX5_isFed 6 = .ok (.iload_n 1, 1) := by decide +kernel
theorem dX5_isFed_7 : decode cX5_isFed 7 = .ok (.iconst 4, 1) := by decide +kernel
theorem dX5_isFed_8 : decode cX5_isFed 8 = .ok (.invokevirtual 47, 3) := by decide +kernel
theorem dX5_isFed_11 : decode cX5_isFed 11 = .ok (.if_icmp .ge 28, 3) := by decide +kernel
theorem dX5_isFed_14 : decode cX5_isFed 14 = .ok (.iload_n 2, 1) := by decide +kernel
theorem dX5_isFed_15 : decode cX5_isFed 15 = .ok (.ifCond .ne 12, 3) := by decide +kernel
theorem dX5_isFed_18 : decode cX5_isFed 18 = .ok (.aload_n 0, 1) := by decide +kernel
theorem dX5_isFed_19 : decode cX5_isFed 19 = .ok (.iload_n 1, 1) := by decide +kernel
theorem dX5_isFed_20 : decode cX5_isFed 20 = .ok (.iload_n 3, 1) := by decide +kernel
theorem dX5_isFed_21 : decode cX5_isFed 21 = .ok (.invokevirtual 55, 3) := by decide +kernel
theorem dX5_isFed_24 : decode cX5_isFed 24 = .ok (.ifCond .eq 7, 3) := by decide +kernel
theorem dX5_isFed_27 : decode cX5_isFed 27 = .ok (.iconst 1, 1) := by decide +kernel
theorem dX5_isFed_28 : decode cX5_isFed 28 = .ok (.goto 4, 3) := by decide +kernel
theorem dX5_isFed_31 : decode cX5_isFed 31 = .ok (.iconst 0, 1) := by decide +kernel
theorem dX5_isFed_32 : decode cX5_isFed 32 = .ok (.istore_n 2, 1) := by decide +kernel
theorem dX5_isFed_33 : decode cX5_isFed 33 = .ok (.iinc 3 1, 3) := by decide +kernel
theorem dX5_isFed_36 : decode cX5_isFed 36 = .ok (.goto (-32), 3) := by decide +kernel
theorem dX5_isFed_39 : decode cX5_isFed 39 = .ok (.iload_n 2, 1) := by decide +kernel
theorem dX5_isFed_40 : decode cX5_isFed 40 = .ok (.ireturn, 1) := by decide +kernel
set_option maxRecDepth 20000 in
theorem ggX5_fed_X5_isFed : GoodIn wsX5_fed wsX5_isFed := goodIn_r _ [5, 6, 7, 8, 4, 9, 10, 11, 12, 13, 14, 15, 16, 17, 18, 19, 20, 21, 22, 23, 24, 25, 26, 27, 28, 29, 30] (by decide +kernel) (by decide +kernel)
set_option maxRecDepth 20000 in
theorem gX5_fed_X5_isFed : GoodIn wsX5_fed (wsV RX5 59 RX5 yX5_isFed wsX5_isFed) := goodIn_app (goodIn_of _ (by decide +kernel)) ggX5_fed_X5_isFed
theorem dX5_fed_0 : decode cX5_fed 0 = .ok (.iconst 0, 1) := by decide +kernel
theorem dX5_fed_1 : decode cX5_fed 1 = .ok (.istore_n 1, 1) := by decide +kernel
theorem dX5_fed_2 : decode cX5_fed 2 = .ok (.iconst 0, 1) := by decide +kernel
theorem dX5_fed_3 : decode cX5_fed 3 = .ok (.istore_n 2, 1) := by decide +kernel
theorem dX5_fed_4 : decode cX5_fed 4 = .ok (.iload_n 2, 1) := by decide +kernel
theorem dX5_fed_5 : decode cX5_fed 5 = .ok (.bipush 10, 2) := by decide +kernel
theorem dX5_fed_7 : decode cX5_fed 7 = .ok (.if_icmp .ge 27, 3) := by decide +kernel
theorem dX5_fed_10 : decode cX5_fed 10 = .ok (.iload_n 1, 1) := by decide +kernel
theorem dX5_fed_11 : decode cX5_fed 11 = .ok (.aload_n 0, 1) := by decide +kernel
theorem dX5_fed_12 : decode cX5_fed 12 = .ok (.iload_n 2, 1) := by decide +kernel
theorem dX5_fed_13 : decode cX5_fed 13 = .ok (.invokevirtual 59, 3) := by decide +kernel
theorem dX5_fed_16 : decode cX5_fed 16 = .ok (.ifCond .eq 9, 3) := by decide +kernel
theorem dX5_fed_19 : decode cX5_fed 19 = .ok (.iconst 1, 1) := by decide +kernel
theorem dX5_fed_20 : decode cX5_fed 20 = .ok (.iload_n 2, 1) := by decide +kernel
theorem dX5_fed_21 : decode cX5_fed 21 = .ok (.ishl, 1) := by decide +kernel
theorem dX5_fed_22 : decode cX5_fed 22 = .ok (.goto 4, 3) := by decide +kernel
theorem dX5_fed_25 : decode cX5_fed 25 = .ok (.iconst 0, 1) := by decide +kernel
theorem dX5_fed_26 : decode cX5_fed 26 = .ok (.ior, 1) := by decide +kernel
theorem dX5_fed_27 : decode cX5_fed 27 = .ok (.istore_n 1, 1) := by decide +kernel
theorem dX5_fed_28 : decode cX5_fed 28 = .ok (.iinc 2 1, 3) := by decide +kernel
theorem dX5_fed_31 : decode cX5_fed 31 = .ok (.goto (-27), 3) := by decide +kernel
theorem dX5_fed_34 : decode cX5_fed 34 = .ok (.iload_n 1, 1) := by decide +kernel
theorem dX5_fed_35 : decode cX5_fed 35 = .ok (.ireturn, 1) := by decide +kernel
set_option maxRecDepth 20000 in
theorem ggX5_wanting_X5_fed : GoodIn wsX5_wanting wsX5_fed := goodIn_r _ [6, 7, 8, 9, 5, 10, 11, 12, 13, 14, 1, 15, 16, 17, 18, 19, 20, 21, 22, 23, 24, 25, 26, 27, 28, 29, 30, 31, 32, 33, 34] (by decide +kernel) (by decide +kernel)
set_option maxRecDepth 20000 in
theorem gX5_wanting_X5_fed : GoodIn wsX5_wanting (wsV RX5 63 RX5 yX5_fed wsX5_fed) := goodIn_app (goodIn_of _ (by decide +kernel)) ggX5_wanting_X5_fed
theorem dX5_wanting_0 : decode cX5_wanting 0 = .ok (.aload_n 0, 1) := by decide +kernel
theorem dX5_wanting_1 : decode cX5_wanting 1 = .ok (.invokevirtual 63, 3) := by decide +kernel
theorem dX5_wanting_4 : decode cX5_wanting 4 = .ok (.istore_n 1, 1) := by decide +kernel
theorem dX5_wanting_5 : decode cX5_wanting 5 = .ok (.iload_n 1, 1) := by decide +kernel
theorem dX5_wanting_6 : decode cX5_wanting 6 = .ok (.aload_n 0, 1) := by decide +kernel
theorem dX5_wanting_7 : decode cX5_wanting 7 = .ok (.getfield 7, 3) := by decide +kernel
theorem dX5_wanting_10 : decode cX5_wanting 10 = .ok (.iconst 0, 1) := by decide +kernel
theorem dX5_wanting_11 : decode cX5_wanting 11 = .ok (.iaload, 1) := by decide +kernel
theorem dX5_wanting_12 : decode cX5_wanting 12 = .ok (.ixor, 1) := by decide +kernel
theorem dX5_wanting_13 : decode cX5_wanting 13 = .ok (.aload_n 0, 1) := by decide +kernel
theorem dX5_wanting_14 : decode cX5_wanting 14 = .ok (.getfield 7, 3) := by decide +kernel
theorem dX5_wanting_17 : decode cX5_wanting 17 = .ok (.iconst 0, 1) := by decide +kernel
theorem dX5_wanting_18 : decode cX5_wanting 18 = .ok (.iaload, 1) := by decide +kernel
theorem dX5_wanting_19 : decode cX5_wanting 19 = .ok (.aload_n 0, 1) := by decide +kernel
theorem dX5_wanting_20 : decode cX5_wanting 20 = .ok (.getfield 7, 3) := by decide +kernel
theorem dX5_wanting_23 : decode cX5_wanting 23 = .ok (.iconst 1, 1) := by decide +kernel
theorem dX5_wanting_24 : decode cX5_wanting 24 = .ok (.iaload, 1) := by decide +kernel
theorem dX5_wanting_25 : decode cX5_wanting 25 = .ok (.iand, 1) := by decide +kernel
theorem dX5_wanting_26 : decode cX5_wanting 26 = .ok (.iconst (-1), 1) := by decide +kernel
theorem dX5_wanting_27 : decode cX5_wanting 27 = .ok (.ixor, 1) := by decide +kernel
theorem dX5_wanting_28 : decode cX5_wanting 28 = .ok (.iand, 1) := by decide +kernel
theorem dX5_wanting_29 : decode cX5_wanting 29 = .ok (.ireturn, 1) := by decide +kernel
set_option maxRecDepth 20000 in
theorem ggX5_moveRelay_X5_setPart : GoodIn wsX5_moveRelay wsX5_setPart := goodIn_r _ [6, 1, 14, 15, 16, 17, 18, 19, 20, 21, 22, 23, 24, 25] (by decide +kernel) (by decide +kernel)
set_option maxRecDepth 20000 in
theorem gX5_moveRelay_X5_setPart : GoodIn wsX5_moveRelay (wsV RX5 31 RX5 yX5_setPart wsX5_setPart) := goodIn_app (goodIn_of _ (by decide +kernel)) ggX5_moveRelay_X5_setPart
set_option maxRecDepth 20000 in
theorem ggX5_moveRelay_X5_has : GoodIn wsX5_moveRelay wsX5_has := goodIn_r _ [9] (by decide +kernel) (by decide +kernel)
set_option maxRecDepth 20000 in
theorem gX5_moveRelay_X5_has : GoodIn wsX5_moveRelay (va_wsS RX5 67 yX5_has wsX5_has) := goodIn_app (goodIn_of _ (by decide +kernel)) ggX5_moveRelay_X5_has
set_option maxRecDepth 20000 in
theorem ggX5_moveRelay_X5_part : GoodIn wsX5_moveRelay wsX5_part := goodIn_r _ [13, 1, 14, 15, 16, 17, 18, 19, 20, 21, 22, 23, 24, 25] (by decide +kernel) (by decide +kernel)
set_option maxRecDepth 20000 in
theorem gX5_moveRelay_X5_part : GoodIn wsX5_moveRelay (wsV RX5 47 RX5 yX5_part wsX5_part) := goodIn_app (goodIn_of _ (by decide +kernel)) ggX5_moveRelay_X5_part
theorem dX5_moveRelay_0 : decode cX5_moveRelay 0 = .ok (.aload_n 0, 1) := by decide +kernel
theorem dX5_moveRelay_1 : decode cX5_moveRelay 1 = .ok (.getfield 7, 3) := by decide +kernel
theorem dX5_moveRelay_4 : decode cX5_moveRelay 4 = .ok (.iconst 0, 1) := by decide +kernel
theorem dX5_moveRelay_5 : decode cX5_moveRelay 5 = .ok (.dup2, 1) := by decide +kernel
theorem dX5_moveRelay_6 : decode cX5_moveRelay 6 = .ok (.iaload, 1) := by decide +kernel
theorem dX5_moveRelay_7 : decode cX5_moveRelay 7 = .ok (.iconst 1, 1) := by decide +kernel
theorem dX5_moveRelay_8 : decode cX5_moveRelay 8 = .ok (.iload_n 1, 1) := by decide +kernel
theorem dX5_moveRelay_9 : decode cX5_moveRelay 9 = .ok (.ishl, 1) := by decide +kernel
theorem dX5_moveRelay_10 : decode cX5_moveRelay 10 = .ok (.ixor, 1) := by decide +kernel
theorem dX5_moveRelay_11 : decode cX5_moveRelay 11 = .ok (.iastore, 1) := by decide +kernel
theorem dX5_moveRelay_12 : decode cX5_moveRelay 12 = .ok (.aload_n 0, 1) := by decide +kernel
theorem dX5_moveRelay_13 : decode cX5_moveRelay 13 = .ok (.getfield 7, 3) := by decide +kernel
theorem dX5_moveRelay_16 : decode cX5_moveRelay 16 = .ok (.iconst 4, 1) := by decide +kernel
theorem dX5_moveRelay_17 : decode cX5_moveRelay 17 = .ok (.dup2, 1) := by decide +kernel
theorem dX5_moveRelay_18 : decode cX5_moveRelay 18 = .ok (.iaload, 1) := by decide +kernel
theorem dX5_moveRelay_19 : decode cX5_moveRelay 19 = .ok (.iconst 1, 1) := by decide +kernel
theorem dX5_moveRelay_20 : decode cX5_moveRelay 20 = .ok (.iadd, 1) := by decide +kernel
theorem dX5_moveRelay_21 : decode cX5_moveRelay 21 = .ok (.iastore, 1) := by decide +kernel
theorem dX5_moveRelay_22 : decode cX5_moveRelay 22 = .ok (.aload_n 0, 1) := by decide +kernel
theorem dX5_moveRelay_23 : decode cX5_moveRelay 23 = .ok (.iload_n 1, 1) := by decide +kernel
theorem dX5_moveRelay_24 : decode cX5_moveRelay 24 = .ok (.iconst 2, 1) := by decide +kernel
theorem dX5_moveRelay_25 : decode cX5_moveRelay 25 = .ok (.iconst 0, 1) := by decide +kernel
theorem dX5_moveRelay_26 : decode cX5_moveRelay 26 = .ok (.invokevirtual 31, 3) := by decide +kernel
theorem dX5_moveRelay_29 : decode cX5_moveRelay 29 = .ok (.aload_n 0, 1) := by decide +kernel
theorem dX5_moveRelay_30 : decode cX5_moveRelay 30 = .ok (.getfield 7, 3) := by decide +kernel
theorem dX5_moveRelay_33 : decode cX5_moveRelay 33 = .ok (.iconst 0, 1) := by decide +kernel
theorem dX5_moveRelay_34 : decode cX5_moveRelay 34 = .ok (.iaload, 1) := by decide +kernel
theorem dX5_moveRelay_35 : decode cX5_moveRelay 35 = .ok (.iload_n 1, 1) := by decide +kernel
theorem dX5_moveRelay_36 : decode cX5_moveRelay 36 = .ok (.invokestatic 67, 3) := by decide +kernel
theorem dX5_moveRelay_39 : decode cX5_moveRelay 39 = .ok (.ifCond .eq 67, 3) := by decide +kernel
theorem dX5_moveRelay_42 : decode cX5_moveRelay 42 = .ok (.aload_n 0, 1) := by decide +kernel
theorem dX5_moveRelay_43 : decode cX5_moveRelay 43 = .ok (.iload_n 1, 1) := by decide +kernel
theorem dX5_moveRelay_44 : decode cX5_moveRelay 44 = .ok (.iconst 3, 1) := by decide +kernel
theorem dX5_moveRelay_45 : decode cX5_moveRelay 45 = .ok (.aload_n 0, 1) := by decide +kernel
theorem dX5_moveRelay_46 : decode cX5_moveRelay 46 = .ok (.iload_n 1, 1) := by decide +kernel
theorem dX5_moveRelay_47 : decode cX5_moveRelay 47 = .ok (.iconst 3, 1) := by decide +kernel
theorem dX5_moveRelay_48 : decode cX5_moveRelay 48 = .ok (.invokevirtual 47, 3) := by decide +kernel
theorem dX5_moveRelay_51 : decode cX5_moveRelay 51 = .ok (.iconst 1, 1) := by decide +kernel
theorem dX5_moveRelay_52 : decode cX5_moveRelay 52 = .ok (.iadd, 1) := by decide +kernel
theorem dX5_moveRelay_53 : decode cX5_moveRelay 53 = .ok (.invokevirtual 31, 3) := by decide +kernel
theorem dX5_moveRelay_56 : decode cX5_moveRelay 56 = .ok (.aload_n 0, 1) := by decide +kernel
theorem dX5_moveRelay_57 : decode cX5_moveRelay 57 = .ok (.getfield 7, 3) := by decide +kernel
theorem dX5_moveRelay_60 : decode cX5_moveRelay 60 = .ok (.iconst 5, 1) := by decide +kernel
theorem dX5_moveRelay_61 : decode cX5_moveRelay 61 = .ok (.iaload, 1) := by decide +kernel
theorem dX5_moveRelay_62 : decode cX5_moveRelay 62 = .ok (.ifCond .le 22, 3) := by decide +kernel
theorem dX5_moveRelay_65 : decode cX5_moveRelay 65 = .ok (.aload_n 0, 1) := by decide +kernel
theorem dX5_moveRelay_66 : decode cX5_moveRelay 66 = .ok (.iload_n 1, 1) := by decide +kernel
theorem dX5_moveRelay_67 : decode cX5_moveRelay 67 = .ok (.iconst 3, 1) := by decide +kernel
theorem dX5_moveRelay_68 : decode cX5_moveRelay 68 = .ok (.invokevirtual 47, 3) := by decide +kernel
theorem dX5_moveRelay_71 : decode cX5_moveRelay 71 = .ok (.aload_n 0, 1) := by decide +kernel
theorem dX5_moveRelay_72 : decode cX5_moveRelay 72 = .ok (.getfield 7, 3) := by decide +kernel
theorem dX5_moveRelay_75 : decode cX5_moveRelay 75 = .ok (.iconst 5, 1) := by decide +kernel
theorem dX5_moveRelay_76 : decode cX5_moveRelay 76 = .ok (.iaload, 1) := by decide +kernel
theorem dX5_moveRelay_77 : decode cX5_moveRelay 77 = .ok (.if_icmp .lt 7, 3) := by decide +kernel
theorem dX5_moveRelay_80 : decode cX5_moveRelay 80 = .ok (.iconst 1, 1) := by decide +kernel
theorem dX5_moveRelay_81 : decode cX5_moveRelay 81 = .ok (.goto 4, 3) := by decide +kernel
theorem dX5_moveRelay_84 : decode cX5_moveRelay 84 = .ok (.iconst 0, 1) := by decide +kernel
theorem dX5_moveRelay_85 : decode cX5_moveRelay 85 = .ok (.istore_n 2, 1) := by decide +kernel
theorem dX5_moveRelay_86 : decode cX5_moveRelay 86 = .ok (.aload_n 0, 1) := by decide +kernel
theorem dX5_moveRelay_87 : decode cX5_moveRelay 87 = .ok (.getfield 7, 3) := by decide +kernel
theorem dX5_moveRelay_90 : decode cX5_moveRelay 90 = .ok (.iconst 1, 1) := by decide +kernel
theorem dX5_moveRelay_91 : decode cX5_moveRelay 91 = .ok (.dup2, 1) := by decide +kernel
theorem dX5_moveRelay_92 : decode cX5_moveRelay 92 = .ok (.iaload, 1) := by decide +kernel
theorem dX5_moveRelay_93 : decode cX5_moveRelay 93 = .ok (.iload_n 2, 1) := by decide +kernel
theorem dX5_moveRelay_94 : decode cX5_moveRelay 94 = .ok (.ifCond .eq 9, 3) := by decide +kernel
theorem dX5_moveRelay_97 : decode cX5_moveRelay 97 = .ok (.iconst 1, 1) := by decide +kernel
theorem dX5_moveRelay_98 : decode cX5_moveRelay 98 = .ok (.iload_n 1, 1) := by decide +kernel
theorem dX5_moveRelay_99 : decode cX5_moveRelay 99 = .ok (.ishl, 1) := by decide +kernel
theorem dX5_moveRelay_100 : decode cX5_moveRelay 100 = .ok (.goto 4, 3) := by decide +kernel
theorem dX5_moveRelay_103 : decode cX5_moveRelay 103 = .ok (.iconst 0, 1) := by decide +kernel
theorem dX5_moveRelay_104 : decode cX5_moveRelay 104 = .ok (.ior, 1) := by decide +kernel
theorem dX5_moveRelay_105 : decode cX5_moveRelay 105 = .ok (.iastore, 1) := by decide +kernel
theorem dX5_moveRelay_106 : decode cX5_moveRelay 106 = .ok (.return_, 1) := by decide +kernel
set_option maxRecDepth 20000 in
theorem ggX5_tick_X5_wanting : GoodIn wsX5_tick wsX5_wanting := goodIn_r _ [6, 1, 7, 8, 9, 5, 10, 11, 12, 13, 14, 15, 16, 17, 18, 19, 20, 21, 22, 23, 24, 25, 26, 38, 39, 40, 41, 42, 43, 44, 45, 46, 47, 48, 49] (by decide +kernel) (by decide +kernel)
set_option maxRecDepth 20000 in
theorem gX5_tick_X5_wanting : GoodIn wsX5_tick (wsV RX5 70 RX5 yX5_wanting wsX5_wanting) := goodIn_app (goodIn_of _ (by decide +kernel)) ggX5_tick_X5_wanting
set_option maxRecDepth 20000 in
theorem ggX5_tick_X5_has : GoodIn wsX5_tick wsX5_has := goodIn_r _ [29] (by decide +kernel) (by decide +kernel)
set_option maxRecDepth 20000 in
theorem gX5_tick_X5_has : GoodIn wsX5_tick (va_wsS RX5 67 yX5_has wsX5_has) := goodIn_app (goodIn_of _ (by decide +kernel)) ggX5_tick_X5_has
set_option maxRecDepth 20000 in
theorem ggX5_tick_X5_part : GoodIn wsX5_tick wsX5_part := goodIn_r _ [18, 1, 38, 39, 40, 41, 42, 43, 44, 45, 46, 47, 48, 49] (by decide +kernel) (by decide +kernel)
set_option maxRecDepth 20000 in
theorem gX5_tick_X5_part : GoodIn wsX5_tick (wsV RX5 47 RX5 yX5_part wsX5_part) := goodIn_app (goodIn_of _ (by decide +kernel)) ggX5_tick_X5_part
set_option maxRecDepth 20000 in
theorem ggX5_tick_X5_setPart : GoodIn wsX5_tick wsX5_setPart := goodIn_r _ [33, 1, 38, 39, 40, 41, 42, 43, 44, 45, 46, 47, 48, 49] (by decide +kernel) (by decide +kernel)
set_option maxRecDepth 20000 in
theorem gX5_tick_X5_setPart : GoodIn wsX5_tick (wsV RX5 31 RX5 yX5_setPart wsX5_setPart) := goodIn_app (goodIn_of _ (by decide +kernel)) ggX5_tick_X5_setPart
set_option maxRecDepth 20000 in
theorem ggX5_tick_X5_moveRelay : GoodIn wsX5_tick wsX5_moveRelay := goodIn_r _ [37, 1, 30, 31, 32, 5, 33, 27, 28, 29, 15, 16, 17, 18, 38, 39, 40, 41, 42, 43, 44, 45, 46, 47, 48, 49] (by decide +kernel) (by decide +kernel)
set_option maxRecDepth 20000 in
theorem gX5_tick_X5_moveRelay : GoodIn wsX5_tick (wsV RX5 73 RX5 yX5_moveRelay wsX5_moveRelay) := goodIn_app (goodIn_of _ (by decide +kernel)) ggX5_tick_X5_moveRelay
theorem dX5_tick_0 : decode cX5_tick 0 = .ok (.aload_n 0, 1) := by decide +kernel
theorem dX5_tick_1 : decode cX5_tick 1 = .ok (.invokevirtual 70, 3) := by decide +kernel
theorem dX5_tick_4 : decode cX5_tick 4 = .ok (.istore_n 1, 1) := by decide +kernel
theorem dX5_tick_5 : decode cX5_tick 5 = .ok (.iconst 0, 1) := by decide +kernel
theorem dX5_tick_6 : decode cX5_tick 6 = .ok (.istore_n 2, 1) := by decide +kernel
theorem dX5_tick_7 : decode cX5_tick 7 = .ok (.iload_n 2, 1) := by decide +kernel
theorem dX5_tick_8 : decode cX5_tick 8 = .ok (.bipush 10, 2) := by decide +kernel
theorem dX5_tick_10 : decode cX5_tick 10 = .ok (.if_icmp .ge 80, 3) := by decide +kernel
theorem dX5_tick_13 : decode cX5_tick 13 = .ok (.aload_n 0, 1) := by decide +kernel
theorem dX5_tick_14 : decode cX5_tick 14 = .ok (.iload_n 2, 1) := by decide +kernel
theorem dX5_tick_15 : decode cX5_tick 15 = .ok (.iconst 2, 1) := by decide +kernel
theorem dX5_tick_16 : decode cX5_tick 16 = .ok (.iload_n 1, 1) := by decide +kernel
theorem dX5_tick_17 : decode cX5_tick 17 = .ok (.iload_n 2, 1) := by decide +kernel
theorem dX5_tick_18 : decode cX5_tick 18 = .ok (.invokestatic 67, 3) := by decide +kernel
theorem dX5_tick_21 : decode cX5_tick 21 = .ok (.ifCond .eq 14, 3) := by decide +kernel
theorem dX5_tick_24 : decode cX5_tick 24 = .ok (.aload_n 0, 1) := by decide +kernel
theorem dX5_tick_25 : decode cX5_tick 25 = .ok (.iload_n 2, 1) := by decide +kernel
theorem dX5_tick_26 : decode cX5_tick 26 = .ok (.iconst 2, 1) := by decide +kernel
theorem dX5_tick_27 : decode cX5_tick 27 = .ok (.invokevirtual 47, 3) := by decide +kernel
theorem dX5_tick_30 : decode cX5_tick 30 = .ok (.iconst 1, 1) := by decide +kernel
theorem dX5_tick_31 : decode cX5_tick 31 = .ok (.iadd, 1) := by decide +kernel
theorem dX5_tick_32 : decode cX5_tick 32 = .ok (.goto 4, 3) := by decide +kernel
theorem dX5_tick_35 : decode cX5_tick 35 = .ok (.iconst 0, 1) := by decide +kernel
theorem dX5_tick_36 : decode cX5_tick 36 = .ok (.invokevirtual 31, 3) := by decide +kernel
theorem dX5_tick_39 : decode cX5_tick 39 = .ok (.iload_n 1, 1) := by decide +kernel
theorem dX5_tick_40 : decode cX5_tick 40 = .ok (.iload_n 2, 1) := by decide +kernel
theorem dX5_tick_41 : decode cX5_tick 41 = .ok (.invokestatic 67, 3) := by decide +kernel
theorem dX5_tick_44 : decode cX5_tick 44 = .ok (.ifCond .eq 40, 3) := by decide +kernel
theorem dX5_tick_47 : decode cX5_tick 47 = .ok (.aload_n 0, 1) := by decide +kernel
theorem dX5_tick_48 : decode cX5_tick 48 = .ok (.iload_n 2, 1) := by decide +kernel
theorem dX5_tick_49 : decode cX5_tick 49 = .ok (.iconst 2, 1) := by decide +kernel
theorem dX5_tick_50 : decode cX5_tick 50 = .ok (.invokevirtual 47, 3) := by decide +kernel
theorem dX5_tick_53 : decode cX5_tick 53 = .ok (.aload_n 0, 1) := by decide +kernel
theorem dX5_tick_54 : decode cX5_tick 54 = .ok (.iload_n 2, 1) := by decide +kernel
theorem dX5_tick_55 : decode cX5_tick 55 = .ok (.aload_n 0, 1) := by decide +kernel
theorem dX5_tick_56 : decode cX5_tick 56 = .ok (.getfield 7, 3) := by decide +kernel
theorem dX5_tick_59 : decode cX5_tick 59 = .ok (.iconst 0, 1) := by decide +kernel
theorem dX5_tick_60 : decode cX5_tick 60 = .ok (.iaload, 1) := by decide +kernel
theorem dX5_tick_61 : decode cX5_tick 61 = .ok (.iload_n 2, 1) := by decide +kernel
theorem dX5_tick_62 : decode cX5_tick 62 = .ok (.invokestatic 67, 3) := by decide +kernel
theorem dX5_tick_65 : decode cX5_tick 65 = .ok (.ifCond .eq 7, 3) := by decide +kernel
theorem dX5_tick_68 : decode cX5_tick 68 = .ok (.iconst 1, 1) := by decide +kernel
theorem dX5_tick_69 : decode cX5_tick 69 = .ok (.goto 4, 3) := by decide +kernel
theorem dX5_tick_72 : decode cX5_tick 72 = .ok (.iconst 0, 1) := by decide +kernel
theorem dX5_tick_73 : decode cX5_tick 73 = .ok (.invokevirtual 47, 3) := by decide +kernel
theorem dX5_tick_76 : decode cX5_tick 76 = .ok (.if_icmp .lt 8, 3) := by decide +kernel
theorem dX5_tick_79 : decode cX5_tick 79 = .ok (.aload_n 0, 1) := by decide +kernel
theorem dX5_tick_80 : decode cX5_tick 80 = .ok (.iload_n 2, 1) := by decide +kernel
theorem dX5_tick_81 : decode cX5_tick 81 = .ok (.invokevirtual 73, 3) := by decide +kernel
theorem dX5_tick_84 : decode cX5_tick 84 = .ok (.iinc 2 1, 3) := by decide +kernel
theorem dX5_tick_87 : decode cX5_tick 87 = .ok (.goto (-80), 3) := by decide +kernel
theorem dX5_tick_90 : decode cX5_tick 90 = .ok (.aload_n 0, 1) := by decide +kernel
theorem dX5_tick_91 : decode cX5_tick 91 = .ok (.getfield 7, 3) := by decide +kernel
theorem dX5_tick_94 : decode cX5_tick 94 = .ok (.iconst 3, 1) := by decide +kernel
theorem dX5_tick_95 : decode cX5_tick 95 = .ok (.dup2, 1) := by decide +kernel
theorem dX5_tick_96 : decode cX5_tick 96 = .ok (.iaload, 1) := by decide +kernel
theorem dX5_tick_97 : decode cX5_tick 97 = .ok (.iconst 1, 1) := by decide +kernel
theorem dX5_tick_98 : decode cX5_tick 98 = .ok (.iadd, 1) := by decide +kernel
theorem dX5_tick_99 : decode cX5_tick 99 = .ok (.iastore, 1) := by decide +kernel
theorem dX5_tick_100 : decode cX5_tick 100 = .ok (.return_, 1) := by decide +kernel
set_option maxRecDepth 20000 in
theorem ggX5_settles_X5_wanting : GoodIn wsX5_settles wsX5_wanting := goodIn_r _ [5, 6, 7, 8, 9, 4, 10, 11, 12, 13, 14, 15, 16, 17, 18, 19, 20, 21, 22, 23, 24, 25, 26, 42, 43, 44, 45, 46, 47, 48, 49, 50, 51, 52, 53] (by decide +kernel) (by decide +kernel)
set_option maxRecDepth 20000 in
theorem gX5_settles_X5_wanting : GoodIn wsX5_settles (wsV RX5 70 RX5 yX5_wanting wsX5_wanting) := goodIn_app (goodIn_of _ (by decide +kernel)) ggX5_settles_X5_wanting
set_option maxRecDepth 20000 in
theorem ggX5_settles_X5_tick : GoodIn wsX5_settles wsX5_tick := goodIn_r _ [30, 6, 1, 2, 3, 4, 5, 7, 8, 9, 10, 11, 12, 13, 14, 15, 16, 17, 18, 19, 20, 21, 22, 23, 24, 25, 26, 31, 32, 33, 34, 35, 36, 37, 38, 39, 40, 41, 42, 43, 44, 45, 46, 47, 48, 49, 50, 51, 52, 53] (by decide +kernel) (by decide +kernel)
set_option maxRecDepth 20000 in
theorem gX5_settles_X5_tick : GoodIn wsX5_settles (wsV RX5 77 RX5 yX5_tick wsX5_tick) := goodIn_app (goodIn_of _ (by decide +kernel)) ggX5_settles_X5_tick
theorem dX5_settles_0 : decode cX5_settles 0 = .ok (.iconst 0, 1) := by decide +kernel
theorem dX5_settles_1 : decode cX5_settles 1 = .ok (.istore_n 1, 1) := by decide +kernel
theorem dX5_settles_2 : decode cX5_settles 2 = .ok (.iload_n 1, 1) := by decide +kernel
theorem dX5_settles_3 : decode cX5_settles 3 = .ok (.sipush 200, 3) := by decide +kernel
theorem dX5_settles_6 : decode cX5_settles 6 = .ok (.if_icmp .ge 20, 3) := by decide +kernel
theorem dX5_settles_9 : decode cX5_settles 9 = .ok (.aload_n 0, 1) := by decide +kernel
theorem dX5_settles_10 : decode cX5_settles 10 = .ok (.invokevirtual 70, 3) := by decide +kernel
theorem dX5_settles_13 : decode cX5_settles 13 = .ok (.ifCond .eq 13, 3) := by decide +kernel
theorem dX5_settles_16 : decode cX5_settles 16 = .ok (.aload_n 0, 1) := by decide +kernel
theorem dX5_settles_17 : decode cX5_settles 17 = .ok (.invokevirtual 77, 3) := by decide +kernel
theorem dX5_settles_20 : decode cX5_settles 20 = .ok (.iinc 1 1, 3) := by decide +kernel
theorem dX5_settles_23 : decode cX5_settles 23 = .ok (.goto (-21), 3) := by decide +kernel
theorem dX5_settles_26 : decode cX5_settles 26 = .ok (.iload_n 1, 1) := by decide +kernel
theorem dX5_settles_27 : decode cX5_settles 27 = .ok (.ireturn, 1) := by decide +kernel
set_option maxRecDepth 20000 in
theorem ggX5_time_X5_isRelay : GoodIn wsX5_time wsX5_isRelay := goodIn_r _ [4, 5, 6, 3, 7] (by decide +kernel) (by decide +kernel)
set_option maxRecDepth 20000 in
theorem gX5_time_X5_isRelay : GoodIn wsX5_time (va_wsS RX5 80 yX5_isRelay wsX5_isRelay) := goodIn_app (goodIn_of _ (by decide +kernel)) ggX5_time_X5_isRelay
set_option maxRecDepth 20000 in
theorem ggX5_time_X5_within : GoodIn wsX5_time wsX5_within := goodIn_r _ [7] (by decide +kernel) (by decide +kernel)
set_option maxRecDepth 20000 in
theorem gX5_time_X5_within : GoodIn wsX5_time (va_wsS RX5 43 yX5_within wsX5_within) := goodIn_app (goodIn_of _ (by decide +kernel)) ggX5_time_X5_within
set_option maxRecDepth 20000 in
theorem ggX5_time_X5_record : GoodIn wsX5_time wsX5_record := goodIn_r _ [11, 12, 13, 14, 15, 16, 3, 17, 26, 27, 28, 29, 30, 31, 32, 33, 34, 35, 36, 37] (by decide +kernel) (by decide +kernel)
set_option maxRecDepth 20000 in
theorem gX5_time_X5_record : GoodIn wsX5_time (wsV RX5 83 RX5 yX5_record wsX5_record) := goodIn_app (goodIn_of _ (by decide +kernel)) ggX5_time_X5_record
set_option maxRecDepth 20000 in
theorem ggX5_time_X5_part : GoodIn wsX5_time wsX5_part := goodIn_r _ [21, 14, 26, 27, 28, 29, 30, 31, 32, 33, 34, 35, 36, 37] (by decide +kernel) (by decide +kernel)
set_option maxRecDepth 20000 in
theorem gX5_time_X5_part : GoodIn wsX5_time (wsV RX5 47 RX5 yX5_part wsX5_part) := goodIn_app (goodIn_of _ (by decide +kernel)) ggX5_time_X5_part
set_option maxRecDepth 20000 in
theorem ggX5_time_X5_setPart : GoodIn wsX5_time wsX5_setPart := goodIn_r _ [25, 14, 26, 27, 28, 29, 30, 31, 32, 33, 34, 35, 36, 37] (by decide +kernel) (by decide +kernel)
