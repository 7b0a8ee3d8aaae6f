set_option maxRecDepth 20000 in
theorem gX2_takesNextOfBranch_X2_goesTo : GoodIn wsX2_takesNextOfBranch (wsV RX2 35 RX2 yX2_goesTo wsX2_goesTo) := goodIn_app (goodIn_of _ (by decide +kernel)) ggX2_takesNextOfBranch_X2_goesTo
set_option maxRecDepth 20000 in
theorem ggX2_takesNextOfBranch_X3_hasRoomForBranch : GoodIn wsX2_takesNextOfBranch wsX3_hasRoomForBranch := goodIn_r _ [12, 13, 39, 40, 41, 42, 43, 44, 45, 46, 47, 48, 49, 50, 51, 52] (by decide +kernel) (by decide +kernel)
set_option maxRecDepth 20000 in
theorem gX2_takesNextOfBranch_X3_hasRoomForBranch : GoodIn wsX2_takesNextOfBranch (wsV RX2 66 RX3 yX3_hasRoomForBranch wsX3_hasRoomForBranch) := goodIn_app (goodIn_of _ (by decide +kernel)) ggX2_takesNextOfBranch_X3_hasRoomForBranch
set_option maxRecDepth 20000 in
theorem ggX2_takesNextOfBranch_X3_hasRoomForContact : GoodIn wsX2_takesNextOfBranch wsX3_hasRoomForContact := goodIn_r _ [17, 13, 18, 19, 20, 21, 39, 40, 41, 42, 43, 44, 45, 46, 47, 48, 49, 50, 51, 52] (by decide +kernel) (by decide +kernel)
set_option maxRecDepth 20000 in
theorem gX2_takesNextOfBranch_X3_hasRoomForContact : GoodIn wsX2_takesNextOfBranch (wsV RX2 69 RX3 yX3_hasRoomForContact wsX3_hasRoomForContact) := goodIn_app (goodIn_of _ (by decide +kernel)) ggX2_takesNextOfBranch_X3_hasRoomForContact
set_option maxRecDepth 20000 in
theorem ggX2_takesNextOfBranch_X2_takesContact : GoodIn wsX2_takesNextOfBranch wsX2_takesContact := goodIn_r _ [25, 7, 1, 2, 3, 4, 5, 6, 26, 27, 28, 29, 20, 30, 31, 32, 33, 11, 34, 13, 35, 36, 18, 19, 21, 37, 38, 39, 40, 41, 42, 43, 44, 45, 46, 47, 48, 49, 50, 51, 52] (by decide +kernel) (by decide +kernel)
set_option maxRecDepth 20000 in
theorem gX2_takesNextOfBranch_X2_takesContact : GoodIn wsX2_takesNextOfBranch (wsV RX2 41 RX2 yX2_takesContact wsX2_takesContact) := goodIn_app (goodIn_of _ (by decide +kernel)) ggX2_takesNextOfBranch_X2_takesContact
theorem dX2_takesNextOfBranch_0 : decode cX2_takesNextOfBranch 0 = .ok (.iload_n 2, 1) := by decide +kernel
theorem dX2_takesNextOfBranch_1 : decode cX2_takesNextOfBranch 1 = .ok (.bipush 59, 2) := by decide +kernel
theorem dX2_takesNextOfBranch_3 : decode cX2_takesNextOfBranch 3 = .ok (.if_icmp .ne 9, 3) := by decide +kernel
theorem dX2_takesNextOfBranch_6 : decode cX2_takesNextOfBranch 6 = .ok (.aload_n 0, 1) := by decide +kernel
theorem dX2_takesNextOfBranch_7 : decode cX2_takesNextOfBranch 7 = .ok (.iconst 0, 1) := by decide +kernel
theorem dX2_takesNextOfBranch_8 : decode cX2_takesNextOfBranch 8 = .ok (.invokevirtual 35, 3) := by decide +kernel
theorem dX2_takesNextOfBranch_11 : decode cX2_takesNextOfBranch 11 = .ok (.ireturn, 1) := by decide +kernel
theorem dX2_takesNextOfBranch_12 : decode cX2_takesNextOfBranch 12 = .ok (.iload_n 2, 1) := by decide +kernel
theorem dX2_takesNextOfBranch_13 : decode cX2_takesNextOfBranch 13 = .ok (.bipush 43, 2) := by decide +kernel
theorem dX2_takesNextOfBranch_15 : decode cX2_takesNextOfBranch 15 = .ok (.if_icmp .ne 28, 3) := by decide +kernel
theorem dX2_takesNextOfBranch_18 : decode cX2_takesNextOfBranch 18 = .ok (.aload_n 1, 1) := by decide +kernel
theorem dX2_takesNextOfBranch_19 : decode cX2_takesNextOfBranch 19 = .ok (.aload_n 0, 1) := by decide +kernel
theorem dX2_takesNextOfBranch_20 : decode cX2_takesNextOfBranch 20 = .ok (.getfield 54, 3) := by decide +kernel
theorem dX2_takesNextOfBranch_23 : decode cX2_takesNextOfBranch 23 = .ok (.invokevirtual 66, 3) := by decide +kernel
theorem dX2_takesNextOfBranch_26 : decode cX2_takesNextOfBranch 26 = .ok (.ifCond .eq 15, 3) := by decide +kernel
theorem dX2_takesNextOfBranch_29 : decode cX2_takesNextOfBranch 29 = .ok (.aload_n 0, 1) := by decide +kernel
theorem dX2_takesNextOfBranch_30 : decode cX2_takesNextOfBranch 30 = .ok (.iconst 4, 1) := by decide +kernel
theorem dX2_takesNextOfBranch_31 : decode cX2_takesNextOfBranch 31 = .ok (.invokevirtual 35, 3) := by decide +kernel
theorem dX2_takesNextOfBranch_34 : decode cX2_takesNextOfBranch 34 = .ok (.ifCond .eq 7, 3) := by decide +kernel
theorem dX2_takesNextOfBranch_37 : decode cX2_takesNextOfBranch 37 = .ok (.iconst 1, 1) := by decide +kernel
theorem dX2_takesNextOfBranch_38 : decode cX2_takesNextOfBranch 38 = .ok (.goto 4, 3) := by decide +kernel
theorem dX2_takesNextOfBranch_41 : decode cX2_takesNextOfBranch 41 = .ok (.iconst 0, 1) := by decide +kernel
theorem dX2_takesNextOfBranch_42 : decode cX2_takesNextOfBranch 42 = .ok (.ireturn, 1) := by decide +kernel
theorem dX2_takesNextOfBranch_43 : decode cX2_takesNextOfBranch 43 = .ok (.aload_n 1, 1) := by decide +kernel
theorem dX2_takesNextOfBranch_44 : decode cX2_takesNextOfBranch 44 = .ok (.aload_n 0, 1) := by decide +kernel
theorem dX2_takesNextOfBranch_45 : decode cX2_takesNextOfBranch 45 = .ok (.getfield 54, 3) := by decide +kernel
theorem dX2_takesNextOfBranch_48 : decode cX2_takesNextOfBranch 48 = .ok (.invokevirtual 69, 3) := by decide +kernel
theorem dX2_takesNextOfBranch_51 : decode cX2_takesNextOfBranch 51 = .ok (.ifCond .eq 16, 3) := by decide +kernel
theorem dX2_takesNextOfBranch_54 : decode cX2_takesNextOfBranch 54 = .ok (.aload_n 0, 1) := by decide +kernel
theorem dX2_takesNextOfBranch_55 : decode cX2_takesNextOfBranch 55 = .ok (.aload_n 1, 1) := by decide +kernel
theorem dX2_takesNextOfBranch_56 : decode cX2_takesNextOfBranch 56 = .ok (.iload_n 2, 1) := by decide +kernel
theorem dX2_takesNextOfBranch_57 : decode cX2_takesNextOfBranch 57 = .ok (.invokevirtual 41, 3) := by decide +kernel
theorem dX2_takesNextOfBranch_60 : decode cX2_takesNextOfBranch 60 = .ok (.ifCond .eq 7, 3) := by decide +kernel
theorem dX2_takesNextOfBranch_63 : decode cX2_takesNextOfBranch 63 = .ok (.iconst 1, 1) := by decide +kernel
theorem dX2_takesNextOfBranch_64 : decode cX2_takesNextOfBranch 64 = .ok (.goto 4, 3) := by decide +kernel
theorem dX2_takesNextOfBranch_67 : decode cX2_takesNextOfBranch 67 = .ok (.iconst 0, 1) := by decide +kernel
theorem dX2_takesNextOfBranch_68 : decode cX2_takesNextOfBranch 68 = .ok (.ireturn, 1) := by decide +kernel
set_option maxRecDepth 20000 in
theorem ggX2_takesContact_X2_goesTo : GoodIn wsX2_takesContact wsX2_goesTo := goodIn_r _ [7, 1, 25, 26] (by decide +kernel) (by decide +kernel)
set_option maxRecDepth 20000 in
theorem gX2_takesContact_X2_goesTo : GoodIn wsX2_takesContact (wsV RX2 35 RX2 yX2_goesTo wsX2_goesTo) := goodIn_app (goodIn_of _ (by decide +kernel)) ggX2_takesContact_X2_goesTo
set_option maxRecDepth 20000 in
theorem ggX2_takesContact_X2_contactOf : GoodIn wsX2_takesContact wsX2_contactOf := goodIn_r _ [10, 11, 12, 13] (by decide +kernel) (by decide +kernel)
set_option maxRecDepth 20000 in
theorem gX2_takesContact_X2_contactOf : GoodIn wsX2_takesContact (va_wsS RX2 47 yX2_contactOf wsX2_contactOf) := goodIn_app (goodIn_of _ (by decide +kernel)) ggX2_takesContact_X2_contactOf
set_option maxRecDepth 20000 in
theorem ggX2_takesContact_X3_addContact : GoodIn wsX2_takesContact wsX3_addContact := goodIn_r _ [18, 19, 20, 21, 22, 23, 12, 24, 27, 28, 29, 30, 31, 32, 33, 34, 35, 36, 37, 38, 39, 40] (by decide +kernel) (by decide +kernel)
set_option maxRecDepth 20000 in
theorem gX2_takesContact_X3_addContact : GoodIn wsX2_takesContact (wsV RX2 72 RX3 yX3_addContact wsX3_addContact) := goodIn_app (goodIn_of _ (by decide +kernel)) ggX2_takesContact_X3_addContact
theorem dX2_takesContact_0 : decode cX2_takesContact 0 = .ok (.aload_n 0, 1) := by decide +kernel
theorem dX2_takesContact_1 : decode cX2_takesContact 1 = .ok (.getfield 11, 3) := by decide +kernel
theorem dX2_takesContact_4 : decode cX2_takesContact 4 = .ok (.iconst 5, 1) := by decide +kernel
theorem dX2_takesContact_5 : decode cX2_takesContact 5 = .ok (.if_icmp .ne 7, 3) := by decide +kernel
theorem dX2_takesContact_8 : decode cX2_takesContact 8 = .ok (.iconst 1, 1) := by decide +kernel
theorem dX2_takesContact_9 : decode cX2_takesContact 9 = .ok (.goto 4, 3) := by decide +kernel
theorem dX2_takesContact_12 : decode cX2_takesContact 12 = .ok (.iconst 0, 1) := by decide +kernel
theorem dX2_takesContact_13 : decode cX2_takesContact 13 = .ok (.istore_n 3, 1) := by decide +kernel
theorem dX2_takesContact_14 : decode cX2_takesContact 14 = .ok (.iload_n 2, 1) := by decide +kernel
theorem dX2_takesContact_15 : decode cX2_takesContact 15 = .ok (.bipush 33, 2) := by decide +kernel
theorem dX2_takesContact_17 : decode cX2_takesContact 17 = .ok (.if_icmp .ne 13, 3) := by decide +kernel
theorem dX2_takesContact_20 : decode cX2_takesContact 20 = .ok (.iload_n 3, 1) := by decide +kernel
theorem dX2_takesContact_21 : decode cX2_takesContact 21 = .ok (.ifCond .ne 9, 3) := by decide +kernel
theorem dX2_takesContact_24 : decode cX2_takesContact 24 = .ok (.aload_n 0, 1) := by decide +kernel
theorem dX2_takesContact_25 : decode cX2_takesContact 25 = .ok (.iconst 5, 1) := by decide +kernel
theorem dX2_takesContact_26 : decode cX2_takesContact 26 = .ok (.invokevirtual 35, 3) := by decide +kernel
theorem dX2_takesContact_29 : decode cX2_takesContact 29 = .ok (.ireturn, 1) := by decide +kernel
theorem dX2_takesContact_30 : decode cX2_takesContact 30 = .ok (.iload_n 2, 1) := by decide +kernel
theorem dX2_takesContact_31 : decode cX2_takesContact 31 = .ok (.invokestatic 47, 3) := by decide +kernel
theorem dX2_takesContact_34 : decode cX2_takesContact 34 = .ok (.istore 4, 2) := by decide +kernel
theorem dX2_takesContact_36 : decode cX2_takesContact 36 = .ok (.iload 4, 2) := by decide +kernel
theorem dX2_takesContact_38 : decode cX2_takesContact 38 = .ok (.iconst (-1), 1) := by decide +kernel
theorem dX2_takesContact_39 : decode cX2_takesContact 39 = .ok (.if_icmp .ne 5, 3) := by decide +kernel
theorem dX2_takesContact_42 : decode cX2_takesContact 42 = .ok (.iconst 0, 1) := by decide +kernel
theorem dX2_takesContact_43 : decode cX2_takesContact 43 = .ok (.ireturn, 1) := by decide +kernel
theorem dX2_takesContact_44 : decode cX2_takesContact 44 = .ok (.aload_n 1, 1) := by decide +kernel
theorem dX2_takesContact_45 : decode cX2_takesContact 45 = .ok (.aload_n 0, 1) := by decide +kernel
theorem dX2_takesContact_46 : decode cX2_takesContact 46 = .ok (.getfield 54, 3) := by decide +kernel
theorem dX2_takesContact_49 : decode cX2_takesContact 49 = .ok (.iload 4, 2) := by decide +kernel
theorem dX2_takesContact_51 : decode cX2_takesContact 51 = .ok (.iload_n 3, 1) := by decide +kernel
theorem dX2_takesContact_52 : decode cX2_takesContact 52 = .ok (.invokevirtual 72, 3) := by decide +kernel
theorem dX2_takesContact_55 : decode cX2_takesContact 55 = .ok (.aload_n 0, 1) := by decide +kernel
theorem dX2_takesContact_56 : decode cX2_takesContact 56 = .ok (.bipush 6, 2) := by decide +kernel
theorem dX2_takesContact_58 : decode cX2_takesContact 58 = .ok (.invokevirtual 35, 3) := by decide +kernel
theorem dX2_takesContact_61 : decode cX2_takesContact 61 = .ok (.ireturn, 1) := by decide +kernel
set_option maxRecDepth 20000 in
theorem ggX2_contactOf_X4_isWithin : GoodIn wsX2_contactOf wsX4_isWithin := goodIn_r _ [3] (by decide +kernel) (by decide +kernel)
set_option maxRecDepth 20000 in
theorem gX2_contactOf_X4_isWithin_n76 : GoodIn wsX2_contactOf (wsX4_isWithin) := ggX2_contactOf_X4_isWithin
theorem dX2_contactOf_0 : decode cX2_contactOf 0 = .ok (.iload_n 0, 1) := by decide +kernel
theorem dX2_contactOf_1 : decode cX2_contactOf 1 = .ok (.bipush 65, 2) := by decide +kernel
theorem dX2_contactOf_3 : decode cX2_contactOf 3 = .ok (.bipush 74, 2) := by decide +kernel
theorem dX2_contactOf_5 : decode cX2_contactOf 5 = .ok (.invokestatic 76, 3) := by decide +kernel
theorem dX2_contactOf_8 : decode cX2_contactOf 8 = .ok (.ifCond .eq 8, 3) := by decide +kernel
theorem dX2_contactOf_11 : decode cX2_contactOf 11 = .ok (.iload_n 0, 1) := by decide +kernel
theorem dX2_contactOf_12 : decode cX2_contactOf 12 = .ok (.bipush 65, 2) := by decide +kernel
theorem dX2_contactOf_14 : decode cX2_contactOf 14 = .ok (.isub, 1) := by decide +kernel
theorem dX2_contactOf_15 : decode cX2_contactOf 15 = .ok (.ireturn, 1) := by decide +kernel
theorem dX2_contactOf_16 : decode cX2_contactOf 16 = .ok (.iload_n 0, 1) := by decide +kernel
theorem dX2_contactOf_17 : decode cX2_contactOf 17 = .ok (.bipush 97, 2) := by decide +kernel
theorem dX2_contactOf_19 : decode cX2_contactOf 19 = .ok (.bipush 102, 2) := by decide +kernel
theorem dX2_contactOf_21 : decode cX2_contactOf 21 = .ok (.invokestatic 76, 3) := by decide +kernel
theorem dX2_contactOf_24 : decode cX2_contactOf 24 = .ok (.ifCond .eq 11, 3) := by decide +kernel
theorem dX2_contactOf_27 : decode cX2_contactOf 27 = .ok (.iload_n 0, 1) := by decide +kernel
theorem dX2_contactOf_28 : decode cX2_contactOf 28 = .ok (.bipush 97, 2) := by decide +kernel
theorem dX2_contactOf_30 : decode cX2_contactOf 30 = .ok (.isub, 1) := by decide +kernel
theorem dX2_contactOf_31 : decode cX2_contactOf 31 = .ok (.bipush 10, 2) := by decide +kernel
theorem dX2_contactOf_33 : decode cX2_contactOf 33 = .ok (.iadd, 1) := by decide +kernel
theorem dX2_contactOf_34 : decode cX2_contactOf 34 = .ok (.ireturn, 1) := by decide +kernel
theorem dX2_contactOf_35 : decode cX2_contactOf 35 = .ok (.iconst (-1), 1) := by decide +kernel
theorem dX2_contactOf_36 : decode cX2_contactOf 36 = .ok (.ireturn, 1) := by decide +kernel
theorem dX3_init_0 : decode cX3_init 0 = .ok (.aload_n 0, 1) := by decide +kernel
theorem dX3_init_1 : decode cX3_init 1 = .ok (.invokespecial 3, 3) := by decide +kernel
theorem dX3_init_4 : decode cX3_init 4 = .ok (.aload_n 0, 1) := by decide +kernel
theorem dX3_init_5 : decode cX3_init 5 = .ok (.bipush 10, 2) := by decide +kernel
theorem dX3_init_7 : decode cX3_init 7 = .ok (.newarray .int, 2) := by decide +kernel
theorem dX3_init_9 : decode cX3_init 9 = .ok (.putfield 9, 3) := by decide +kernel
theorem dX3_init_12 : decode cX3_init 12 = .ok (.aload_n 0, 1) := by decide +kernel
theorem dX3_init_13 : decode cX3_init 13 = .ok (.bipush 10, 2) := by decide +kernel
theorem dX3_init_15 : decode cX3_init 15 = .ok (.newarray .int, 2) := by decide +kernel
theorem dX3_init_17 : decode cX3_init 17 = .ok (.putfield 15, 3) := by decide +kernel
theorem dX3_init_20 : decode cX3_init 20 = .ok (.aload_n 0, 1) := by decide +kernel
theorem dX3_init_21 : decode cX3_init 21 = .ok (.bipush 10, 2) := by decide +kernel
theorem dX3_init_23 : decode cX3_init 23 = .ok (.newarray .int, 2) := by decide +kernel
theorem dX3_init_25 : decode cX3_init 25 = .ok (.putfield 18, 3) := by decide +kernel
theorem dX3_init_28 : decode cX3_init 28 = .ok (.aload_n 0, 1) := by decide +kernel
theorem dX3_init_29 : decode cX3_init 29 = .ok (.bipush 10, 2) := by decide +kernel
theorem dX3_init_31 : decode cX3_init 31 = .ok (.newarray .int, 2) := by decide +kernel
theorem dX3_init_33 : decode cX3_init 33 = .ok (.putfield 21, 3) := by decide +kernel
theorem dX3_init_36 : decode cX3_init 36 = .ok (.aload_n 0, 1) := by decide +kernel
theorem dX3_init_37 : decode cX3_init 37 = .ok (.bipush 10, 2) := by decide +kernel
theorem dX3_init_39 : decode cX3_init 39 = .ok (.newarray .int, 2) := by decide +kernel
theorem dX3_init_41 : decode cX3_init 41 = .ok (.putfield 24, 3) := by decide +kernel
theorem dX3_init_44 : decode cX3_init 44 = .ok (.aload_n 0, 1) := by decide +kernel
theorem dX3_init_45 : decode cX3_init 45 = .ok (.bipush 60, 2) := by decide +kernel
theorem dX3_init_47 : decode cX3_init 47 = .ok (.newarray .int, 2) := by decide +kernel
theorem dX3_init_49 : decode cX3_init 49 = .ok (.putfield 27, 3) := by decide +kernel
theorem dX3_init_52 : decode cX3_init 52 = .ok (.aload_n 0, 1) := by decide +kernel
theorem dX3_init_53 : decode cX3_init 53 = .ok (.bipush 60, 2) := by decide +kernel
theorem dX3_init_55 : decode cX3_init 55 = .ok (.newarray .int, 2) := by decide +kernel
theorem dX3_init_57 : decode cX3_init 57 = .ok (.putfield 30, 3) := by decide +kernel
theorem dX3_init_60 : decode cX3_init 60 = .ok (.aload_n 0, 1) := by decide +kernel
theorem dX3_init_61 : decode cX3_init 61 = .ok (.bipush 60, 2) := by decide +kernel
theorem dX3_init_63 : decode cX3_init 63 = .ok (.newarray .int, 2) := by decide +kernel
theorem dX3_init_65 : decode cX3_init 65 = .ok (.putfield 33, 3) := by decide +kernel
theorem dX3_init_68 : decode cX3_init 68 = .ok (.iconst 0, 1) := by decide +kernel
theorem dX3_init_69 : decode cX3_init 69 = .ok (.istore_n 1, 1) := by decide +kernel
theorem dX3_init_70 : decode cX3_init 70 = .ok (.iload_n 1, 1) := by decide +kernel
theorem dX3_init_71 : decode cX3_init 71 = .ok (.bipush 10, 2) := by decide +kernel
theorem dX3_init_73 : decode cX3_init 73 = .ok (.if_icmp .ge 23, 3) := by decide +kernel
theorem dX3_init_76 : decode cX3_init 76 = .ok (.aload_n 0, 1) := by decide +kernel
theorem dX3_init_77 : decode cX3_init 77 = .ok (.getfield 9, 3) := by decide +kernel
theorem dX3_init_80 : decode cX3_init 80 = .ok (.iload_n 1, 1) := by decide +kernel
theorem dX3_init_81 : decode cX3_init 81 = .ok (.iconst 2, 1) := by decide +kernel
theorem dX3_init_82 : decode cX3_init 82 = .ok (.iastore, 1) := by decide +kernel
theorem dX3_init_83 : decode cX3_init 83 = .ok (.aload_n 0, 1) := by decide +kernel
theorem dX3_init_84 : decode cX3_init 84 = .ok (.getfield 15, 3) := by decide +kernel
theorem dX3_init_87 : decode cX3_init 87 = .ok (.iload_n 1, 1) := by decide +kernel
theorem dX3_init_88 : decode cX3_init 88 = .ok (.iconst 1, 1) := by decide +kernel
theorem dX3_init_89 : decode cX3_init 89 = .ok (.iastore, 1) := by decide +kernel
theorem dX3_init_90 : decode cX3_init 90 = .ok (.iinc 1 1, 3) := by decide +kernel
theorem dX3_init_93 : decode cX3_init 93 = .ok (.goto (-23), 3) := by decide +kernel
theorem dX3_init_96 : decode cX3_init 96 = .ok (.return_, 1) := by decide +kernel
theorem dX3_copyFrom_0 : decode cX3_copyFrom 0 = .ok (.aload_n 0, 1) := by decide +kernel
theorem dX3_copyFrom_1 : decode cX3_copyFrom 1 = .ok (.aload_n 1, 1) := by decide +kernel
theorem dX3_copyFrom_2 : decode cX3_copyFrom 2 = .ok (.getfield 36, 3) := by decide +kernel
theorem dX3_copyFrom_5 : decode cX3_copyFrom 5 = .ok (.putfield 36, 3) := by decide +kernel
theorem dX3_copyFrom_8 : decode cX3_copyFrom 8 = .ok (.aload_n 0, 1) := by decide +kernel
theorem dX3_copyFrom_9 : decode cX3_copyFrom 9 = .ok (.aload_n 1, 1) := by decide +kernel
theorem dX3_copyFrom_10 : decode cX3_copyFrom 10 = .ok (.getfield 40, 3) := by decide +kernel
theorem dX3_copyFrom_13 : decode cX3_copyFrom 13 = .ok (.putfield 40, 3) := by decide +kernel
theorem dX3_copyFrom_16 : decode cX3_copyFrom 16 = .ok (.aload_n 0, 1) := by decide +kernel
theorem dX3_copyFrom_17 : decode cX3_copyFrom 17 = .ok (.aload_n 1, 1) := by decide +kernel
theorem dX3_copyFrom_18 : decode cX3_copyFrom 18 = .ok (.getfield 43, 3) := by decide +kernel
theorem dX3_copyFrom_21 : decode cX3_copyFrom 21 = .ok (.putfield 43, 3) := by decide +kernel
theorem dX3_copyFrom_24 : decode cX3_copyFrom 24 = .ok (.aload_n 0, 1) := by decide +kernel
theorem dX3_copyFrom_25 : decode cX3_copyFrom 25 = .ok (.aload_n 1, 1) := by decide +kernel
theorem dX3_copyFrom_26 : decode cX3_copyFrom 26 = .ok (.getfield 46, 3) := by decide +kernel
theorem dX3_copyFrom_29 : decode cX3_copyFrom 29 = .ok (.putfield 46, 3) := by decide +kernel
theorem dX3_copyFrom_32 : decode cX3_copyFrom 32 = .ok (.aload_n 0, 1) := by decide +kernel
theorem dX3_copyFrom_33 : decode cX3_copyFrom 33 = .ok (.aload_n 1, 1) := by decide +kernel
theorem dX3_copyFrom_34 : decode cX3_copyFrom 34 = .ok (.getfield 49, 3) := by decide +kernel
theorem dX3_copyFrom_37 : decode cX3_copyFrom 37 = .ok (.putfield 49, 3) := by decide +kernel
theorem dX3_copyFrom_40 : decode cX3_copyFrom 40 = .ok (.aload_n 0, 1) := by decide +kernel
theorem dX3_copyFrom_41 : decode cX3_copyFrom 41 = .ok (.aload_n 1, 1) := by decide +kernel
theorem dX3_copyFrom_42 : decode cX3_copyFrom 42 = .ok (.getfield 52, 3) := by decide +kernel
theorem dX3_copyFrom_45 : decode cX3_copyFrom 45 = .ok (.putfield 52, 3) := by decide +kernel
theorem dX3_copyFrom_48 : decode cX3_copyFrom 48 = .ok (.aload_n 1, 1) := by decide +kernel
theorem dX3_copyFrom_49 : decode cX3_copyFrom 49 = .ok (.getfield 9, 3) := by decide +kernel
theorem dX3_copyFrom_52 : decode cX3_copyFrom 52 = .ok (.iconst 0, 1) := by decide +kernel
theorem dX3_copyFrom_53 : decode cX3_copyFrom 53 = .ok (.aload_n 0, 1) := by decide +kernel
theorem dX3_copyFrom_54 : decode cX3_copyFrom 54 = .ok (.getfield 9, 3) := by decide +kernel
theorem dX3_copyFrom_57 : decode cX3_copyFrom 57 = .ok (.iconst 0, 1) := by decide +kernel
theorem dX3_copyFrom_58 : decode cX3_copyFrom 58 = .ok (.bipush 10, 2) := by decide +kernel
theorem dX3_copyFrom_60 : decode cX3_copyFrom 60 = .ok (.invokestatic 55, 3) := by decide +kernel
theorem dX3_copyFrom_63 : decode cX3_copyFrom 63 = .ok (.aload_n 1, 1) := by decide +kernel
theorem dX3_copyFrom_64 : decode cX3_copyFrom 64 = .ok (.getfield 15, 3) := by decide +kernel
theorem dX3_copyFrom_67 : decode cX3_copyFrom 67 = .ok (.iconst 0, 1) := by decide +kernel
theorem dX3_copyFrom_68 : decode cX3_copyFrom 68 = .ok (.aload_n 0, 1) := by decide +kernel
theorem dX3_copyFrom_69 : decode cX3_copyFrom 69 = .ok (.getfield 15, 3) := by decide +kernel
theorem dX3_copyFrom_72 : decode cX3_copyFrom 72 = .ok (.iconst 0, 1) := by decide +kernel
theorem dX3_copyFrom_73 : decode cX3_copyFrom 73 = .ok (.bipush 10, 2) := by decide +kernel
theorem dX3_copyFrom_75 : decode cX3_copyFrom 75 = .ok (.invokestatic 55, 3) := by decide +kernel
theorem dX3_copyFrom_78 : decode cX3_copyFrom 78 = .ok (.aload_n 1, 1) := by decide +kernel
theorem dX3_copyFrom_79 : decode cX3_copyFrom 79 = .ok (.getfield 18, 3) := by decide +kernel
theorem dX3_copyFrom_82 : decode cX3_copyFrom 82 = .ok (.iconst 0, 1) := by decide +kernel
theorem dX3_copyFrom_83 : decode cX3_copyFrom 83 = .ok (.aload_n 0, 1) := by decide +kernel
theorem dX3_copyFrom_84 : decode cX3_copyFrom 84 = .ok (.getfield 18, 3) := by decide +kernel
theorem dX3_copyFrom_87 : decode cX3_copyFrom 87 = .ok (.iconst 0, 1) := by decide +kernel
theorem dX3_copyFrom_88 : decode cX3_copyFrom 88 = .ok (.bipush 10, 2) := by decide +kernel
theorem dX3_copyFrom_90 : decode cX3_copyFrom 90 = .ok (.invokestatic 55, 3) := by decide +kernel
theorem dX3_copyFrom_93 : decode cX3_copyFrom 93 = .ok (.aload_n 1, 1) := by decide +kernel
theorem dX3_copyFrom_94 : decode cX3_copyFrom 94 = .ok (.getfield 21, 3) := by decide +kernel
theorem dX3_copyFrom_97 : decode cX3_copyFrom 97 = .ok (.iconst 0, 1) := by decide +kernel
theorem dX3_copyFrom_98 : decode cX3_copyFrom 98 = .ok (.aload_n 0, 1) := by decide +kernel
theorem dX3_copyFrom_99 : decode cX3_copyFrom 99 = .ok (.getfield 21, 3) := by decide +kernel
theorem dX3_copyFrom_102 : decode cX3_copyFrom 102 = .ok (.iconst 0, 1) := by decide +kernel
theorem dX3_copyFrom_103 : decode cX3_copyFrom 103 = .ok (.bipush 10, 2) := by decide +kernel
theorem dX3_copyFrom_105 : decode cX3_copyFrom 105 = .ok (.invokestatic 55, 3) := by decide +kernel
theorem dX3_copyFrom_108 : decode cX3_copyFrom 108 = .ok (.aload_n 1, 1) := by decide +kernel
theorem dX3_copyFrom_109 : decode cX3_copyFrom 109 = .ok (.getfield 24, 3) := by decide +kernel
theorem dX3_copyFrom_112 : decode cX3_copyFrom 112 = .ok (.iconst 0, 1) := by decide +kernel
theorem dX3_copyFrom_113 : decode cX3_copyFrom 113 = .ok (.aload_n 0, 1) := by decide +kernel
theorem dX3_copyFrom_114 : decode cX3_copyFrom 114 = .ok (.getfield 24, 3) := by decide +kernel
theorem dX3_copyFrom_117 : decode cX3_copyFrom 117 = .ok (.iconst 0, 1) := by decide +kernel
theorem dX3_copyFrom_118 : decode cX3_copyFrom 118 = .ok (.bipush 10, 2) := by decide +kernel
theorem dX3_copyFrom_120 : decode cX3_copyFrom 120 = .ok (.invokestatic 55, 3) := by decide +kernel
theorem dX3_copyFrom_123 : decode cX3_copyFrom 123 = .ok (.aload_n 1, 1) := by decide +kernel
theorem dX3_copyFrom_124 : decode cX3_copyFrom 124 = .ok (.getfield 27, 3) := by decide +kernel
theorem dX3_copyFrom_127 : decode cX3_copyFrom 127 = .ok (.iconst 0, 1) := by decide +kernel
theorem dX3_copyFrom_128 : decode cX3_copyFrom 128 = .ok (.aload_n 0, 1) := by decide +kernel
theorem dX3_copyFrom_129 : decode cX3_copyFrom 129 = .ok (.getfield 27, 3) := by decide +kernel
theorem dX3_copyFrom_132 : decode cX3_copyFrom 132 = .ok (.iconst 0, 1) := by decide +kernel
theorem dX3_copyFrom_133 : decode cX3_copyFrom 133 = .ok (.bipush 60, 2) := by decide +kernel
theorem dX3_copyFrom_135 : decode cX3_copyFrom 135 = .ok (.invokestatic 55, 3) := by decide +kernel
theorem dX3_copyFrom_138 : decode cX3_copyFrom 138 = .ok (.aload_n 1, 1) := by decide +kernel
theorem dX3_copyFrom_139 : decode cX3_copyFrom 139 = .ok (.getfield 30, 3) := by decide +kernel
theorem dX3_copyFrom_142 : decode cX3_copyFrom 142 = .ok (.iconst 0, 1) := by decide +kernel
theorem dX3_copyFrom_143 : decode cX3_copyFrom 143 = .ok (.aload_n 0, 1) := by decide +kernel
theorem dX3_copyFrom_144 : decode cX3_copyFrom 144 = .ok (.getfield 30, 3) := by decide +kernel
theorem dX3_copyFrom_147 : decode cX3_copyFrom 147 = .ok (.iconst 0, 1) := by decide +kernel
theorem dX3_copyFrom_148 : decode cX3_copyFrom 148 = .ok (.bipush 60, 2) := by decide +kernel
theorem dX3_copyFrom_150 : decode cX3_copyFrom 150 = .ok (.invokestatic 55, 3) := by decide +kernel
theorem dX3_copyFrom_153 : decode cX3_copyFrom 153 = .ok (.aload_n 1, 1) := by decide +kernel
theorem dX3_copyFrom_154 : decode cX3_copyFrom 154 = .ok (.getfield 33, 3) := by decide +kernel
theorem dX3_copyFrom_157 : decode cX3_copyFrom 157 = .ok (.iconst 0, 1) := by decide +kernel
theorem dX3_copyFrom_158 : decode cX3_copyFrom 158 = .ok (.aload_n 0, 1) := by decide +kernel
theorem dX3_copyFrom_159 : decode cX3_copyFrom 159 = .ok (.getfield 33, 3) := by decide +kernel
theorem dX3_copyFrom_162 : decode cX3_copyFrom 162 = .ok (.iconst 0, 1) := by decide +kernel
theorem dX3_copyFrom_163 : decode cX3_copyFrom 163 = .ok (.bipush 60, 2) := by decide +kernel
theorem dX3_copyFrom_165 : decode cX3_copyFrom 165 = .ok (.invokestatic 55, 3) := by decide +kernel
theorem dX3_copyFrom_168 : decode cX3_copyFrom 168 = .ok (.return_, 1) := by decide +kernel
theorem dX3_makeAllTimesOne_0 : decode cX3_makeAllTimesOne 0 = .ok (.iconst 0, 1) := by decide +kernel
theorem dX3_makeAllTimesOne_1 : decode cX3_makeAllTimesOne 1 = .ok (.istore_n 1, 1) := by decide +kernel
theorem dX3_makeAllTimesOne_2 : decode cX3_makeAllTimesOne 2 = .ok (.iload_n 1, 1) := by decide +kernel
theorem dX3_makeAllTimesOne_3 : decode cX3_makeAllTimesOne 3 = .ok (.bipush 10, 2) := by decide +kernel
theorem dX3_makeAllTimesOne_5 : decode cX3_makeAllTimesOne 5 = .ok (.if_icmp .ge 23, 3) := by decide +kernel
theorem dX3_makeAllTimesOne_8 : decode cX3_makeAllTimesOne 8 = .ok (.aload_n 0, 1) := by decide +kernel
theorem dX3_makeAllTimesOne_9 : decode cX3_makeAllTimesOne 9 = .ok (.getfield 9, 3) := by decide +kernel
theorem dX3_makeAllTimesOne_12 : decode cX3_makeAllTimesOne 12 = .ok (.iload_n 1, 1) := by decide +kernel
theorem dX3_makeAllTimesOne_13 : decode cX3_makeAllTimesOne 13 = .ok (.iconst 1, 1) := by decide +kernel
theorem dX3_makeAllTimesOne_14 : decode cX3_makeAllTimesOne 14 = .ok (.iastore, 1) := by decide +kernel
theorem dX3_makeAllTimesOne_15 : decode cX3_makeAllTimesOne 15 = .ok (.aload_n 0, 1) := by decide +kernel
theorem dX3_makeAllTimesOne_16 : decode cX3_makeAllTimesOne 16 = .ok (.getfield 15, 3) := by decide +kernel
theorem dX3_makeAllTimesOne_19 : decode cX3_makeAllTimesOne 19 = .ok (.iload_n 1, 1) := by decide +kernel
theorem dX3_makeAllTimesOne_20 : decode cX3_makeAllTimesOne 20 = .ok (.iconst 1, 1) := by decide +kernel
theorem dX3_makeAllTimesOne_21 : decode cX3_makeAllTimesOne 21 = .ok (.iastore, 1) := by decide +kernel
theorem dX3_makeAllTimesOne_22 : decode cX3_makeAllTimesOne 22 = .ok (.iinc 1 1, 3) := by decide +kernel
theorem dX3_makeAllTimesOne_25 : decode cX3_makeAllTimesOne 25 = .ok (.goto (-23), 3) := by decide +kernel
theorem dX3_makeAllTimesOne_28 : decode cX3_makeAllTimesOne 28 = .ok (.return_, 1) := by decide +kernel
set_option maxRecDepth 20000 in
theorem ggX3_fedRelays_X3_isFed : GoodIn wsX3_fedRelays wsX3_isFed := goodIn_r _ [5, 6, 7, 8, 9, 10, 11, 12, 4, 13, 14, 15, 16, 17, 18, 19, 20, 21, 22, 23, 24, 25, 26, 27, 28, 29, 30, 31] (by decide +kernel) (by decide +kernel)
set_option maxRecDepth 20000 in
theorem gX3_fedRelays_X3_isFed : GoodIn wsX3_fedRelays (wsV RX3 61 RX3 yX3_isFed wsX3_isFed) := goodIn_app (goodIn_of _ (by decide +kernel)) ggX3_fedRelays_X3_isFed
theorem dX3_fedRelays_0 : decode cX3_fedRelays 0 = .ok (.iconst 0, 1) := by decide +kernel
theorem dX3_fedRelays_1 : decode cX3_fedRelays 1 = .ok (.istore_n 1, 1) := by decide +kernel
theorem dX3_fedRelays_2 : decode cX3_fedRelays 2 = .ok (.iconst 0, 1) := by decide +kernel
theorem dX3_fedRelays_3 : decode cX3_fedRelays 3 = .ok (.istore_n 2, 1) := by decide +kernel
theorem dX3_fedRelays_4 : decode cX3_fedRelays 4 = .ok (.iload_n 2, 1) := by decide +kernel
theorem dX3_fedRelays_5 : decode cX3_fedRelays 5 = .ok (.bipush 10, 2) := by decide +kernel
theorem dX3_fedRelays_7 : decode cX3_fedRelays 7 = .ok (.if_icmp .ge 23, 3) := by decide +kernel
theorem dX3_fedRelays_10 : decode cX3_fedRelays 10 = .ok (.aload_n 0, 1) := by decide +kernel
theorem dX3_fedRelays_11 : decode cX3_fedRelays 11 = .ok (.iload_n 2, 1) := by decide +kernel
theorem dX3_fedRelays_12 : decode cX3_fedRelays 12 = .ok (.invokevirtual 61, 3) := by decide +kernel
theorem dX3_fedRelays_15 : decode cX3_fedRelays 15 = .ok (.ifCond .eq 9, 3) := by decide +kernel
theorem dX3_fedRelays_18 : decode cX3_fedRelays 18 = .ok (.iload_n 1, 1) := by decide +kernel
theorem dX3_fedRelays_19 : decode cX3_fedRelays 19 = .ok (.iconst 1, 1) := by decide +kernel
theorem dX3_fedRelays_20 : decode cX3_fedRelays 20 = .ok (.iload_n 2, 1) := by decide +kernel
theorem dX3_fedRelays_21 : decode cX3_fedRelays 21 = .ok (.ishl, 1) := by decide +kernel
theorem dX3_fedRelays_22 : decode cX3_fedRelays 22 = .ok (.ior, 1) := by decide +kernel
theorem dX3_fedRelays_23 : decode cX3_fedRelays 23 = .ok (.istore_n 1, 1) := by decide +kernel
theorem dX3_fedRelays_24 : decode cX3_fedRelays 24 = .ok (.iinc 2 1, 3) := by decide +kernel
theorem dX3_fedRelays_27 : decode cX3_fedRelays 27 = .ok (.goto (-23), 3) := by decide +kernel
theorem dX3_fedRelays_30 : decode cX3_fedRelays 30 = .ok (.iload_n 1, 1) := by decide +kernel
theorem dX3_fedRelays_31 : decode cX3_fedRelays 31 = .ok (.ireturn, 1) := by decide +kernel
set_option maxRecDepth 20000 in
theorem ggX3_isFed_X4_placeOf : GoodIn wsX3_isFed wsX4_placeOf := goodIn_r _ [4] (by decide +kernel) (by decide +kernel)
set_option maxRecDepth 20000 in
theorem gX3_isFed_X4_placeOf_n65 : GoodIn wsX3_isFed (wsX4_placeOf) := ggX3_isFed_X4_placeOf
set_option maxRecDepth 20000 in
theorem ggX3_isFed_X3_isClosed : GoodIn wsX3_isFed wsX3_isClosed := goodIn_r _ [9, 10, 11, 12, 13, 14, 15, 16, 17, 18, 19, 20, 21, 22, 23, 24, 25, 26, 27] (by decide +kernel) (by decide +kernel)
set_option maxRecDepth 20000 in
theorem gX3_isFed_X3_isClosed : GoodIn wsX3_isFed (wsV RX3 69 RX3 yX3_isClosed wsX3_isClosed) := goodIn_app (goodIn_of _ (by decide +kernel)) ggX3_isFed_X3_isClosed
theorem dX3_isFed_0 : decode cX3_isFed 0 = .ok (.iload_n 1, 1) := by decide +kernel
theorem dX3_isFed_1 : decode cX3_isFed 1 = .ok (.aload_n 0, 1) := by decide +kernel
theorem dX3_isFed_2 : decode cX3_isFed 2 = .ok (.getfield 24, 3) := by decide +kernel
theorem dX3_isFed_5 : decode cX3_isFed 5 = .ok (.iload_n 1, 1) := by decide +kernel
theorem dX3_isFed_6 : decode cX3_isFed 6 = .ok (.iaload, 1) := by decide +kernel
theorem dX3_isFed_7 : decode cX3_isFed 7 = .ok (.invokestatic 65, 3) := by decide +kernel
theorem dX3_isFed_10 : decode cX3_isFed 10 = .ok (.istore_n 2, 1) := by decide +kernel
theorem dX3_isFed_11 : decode cX3_isFed 11 = .ok (.iload_n 1, 1) := by decide +kernel
theorem dX3_isFed_12 : decode cX3_isFed 12 = .ok (.iconst 0, 1) := by decide +kernel
theorem dX3_isFed_13 : decode cX3_isFed 13 = .ok (.invokestatic 65, 3) := by decide +kernel
theorem dX3_isFed_16 : decode cX3_isFed 16 = .ok (.istore_n 3, 1) := by decide +kernel
theorem dX3_isFed_17 : decode cX3_isFed 17 = .ok (.iload_n 3, 1) := by decide +kernel
theorem dX3_isFed_18 : decode cX3_isFed 18 = .ok (.iload_n 2, 1) := by decide +kernel
theorem dX3_isFed_19 : decode cX3_isFed 19 = .ok (.if_icmp .ge 19, 3) := by decide +kernel
theorem dX3_isFed_22 : decode cX3_isFed 22 = .ok (.aload_n 0, 1) := by decide +kernel
theorem dX3_isFed_23 : decode cX3_isFed 23 = .ok (.iload_n 3, 1) := by decide +kernel
theorem dX3_isFed_24 : decode cX3_isFed 24 = .ok (.invokevirtual 69, 3) := by decide +kernel
theorem dX3_isFed_27 : decode cX3_isFed 27 = .ok (.ifCond .eq 5, 3) := by decide +kernel
theorem dX3_isFed_30 : decode cX3_isFed 30 = .ok (.iconst 1, 1) := by decide +kernel
theorem dX3_isFed_31 : decode cX3_isFed 31 = .ok (.ireturn, 1) := by decide +kernel
theorem dX3_isFed_32 : decode cX3_isFed 32 = .ok (.iinc 3 1, 3) := by decide +kernel
theorem dX3_isFed_35 : decode cX3_isFed 35 = .ok (.goto (-18), 3) := by decide +kernel
theorem dX3_isFed_38 : decode cX3_isFed 38 = .ok (.iconst 0, 1) := by decide +kernel
theorem dX3_isFed_39 : decode cX3_isFed 39 = .ok (.ireturn, 1) := by decide +kernel
theorem dX3_isClosed_0 : decode cX3_isClosed 0 = .ok (.aload_n 0, 1) := by decide +kernel
theorem dX3_isClosed_1 : decode cX3_isClosed 1 = .ok (.getfield 36, 3) := by decide +kernel
theorem dX3_isClosed_4 : decode cX3_isClosed 4 = .ok (.aload_n 0, 1) := by decide +kernel
theorem dX3_isClosed_5 : decode cX3_isClosed 5 = .ok (.getfield 43, 3) := by decide +kernel
theorem dX3_isClosed_8 : decode cX3_isClosed 8 = .ok (.bipush 10, 2) := by decide +kernel
theorem dX3_isClosed_10 : decode cX3_isClosed 10 = .ok (.ishl, 1) := by decide +kernel
theorem dX3_isClosed_11 : decode cX3_isClosed 11 = .ok (.ior, 1) := by decide +kernel
theorem dX3_isClosed_12 : decode cX3_isClosed 12 = .ok (.istore_n 2, 1) := by decide +kernel
theorem dX3_isClosed_13 : decode cX3_isClosed 13 = .ok (.iload_n 2, 1) := by decide +kernel
theorem dX3_isClosed_14 : decode cX3_isClosed 14 = .ok (.aload_n 0, 1) := by decide +kernel
theorem dX3_isClosed_15 : decode cX3_isClosed 15 = .ok (.getfield 27, 3) := by decide +kernel
theorem dX3_isClosed_18 : decode cX3_isClosed 18 = .ok (.iload_n 1, 1) := by decide +kernel
theorem dX3_isClosed_19 : decode cX3_isClosed 19 = .ok (.iaload, 1) := by decide +kernel
theorem dX3_isClosed_20 : decode cX3_isClosed 20 = .ok (.iand, 1) := by decide +kernel
theorem dX3_isClosed_21 : decode cX3_isClosed 21 = .ok (.aload_n 0, 1) := by decide +kernel
theorem dX3_isClosed_22 : decode cX3_isClosed 22 = .ok (.getfield 27, 3) := by decide +kernel
theorem dX3_isClosed_25 : decode cX3_isClosed 25 = .ok (.iload_n 1, 1) := by decide +kernel
theorem dX3_isClosed_26 : decode cX3_isClosed 26 = .ok (.iaload, 1) := by decide +kernel
theorem dX3_isClosed_27 : decode cX3_isClosed 27 = .ok (.if_icmp .ne 18, 3) := by decide +kernel
theorem dX3_isClosed_30 : decode cX3_isClosed 30 = .ok (.iload_n 2, 1) := by decide +kernel
theorem dX3_isClosed_31 : decode cX3_isClosed 31 = .ok (.aload_n 0, 1) := by decide +kernel
theorem dX3_isClosed_32 : decode cX3_isClosed 32 = .ok (.getfield 30, 3) := by decide +kernel
theorem dX3_isClosed_35 : decode cX3_isClosed 35 = .ok (.iload_n 1, 1) := by decide +kernel
theorem dX3_isClosed_36 : decode cX3_isClosed 36 = .ok (.iaload, 1) := by decide +kernel
theorem dX3_isClosed_37 : decode cX3_isClosed 37 = .ok (.iand, 1) := by decide +kernel
theorem dX3_isClosed_38 : decode cX3_isClosed 38 = .ok (.ifCond .ne 7, 3) := by decide +kernel
theorem dX3_isClosed_41 : decode cX3_isClosed 41 = .ok (.iconst 1, 1) := by decide +kernel
theorem dX3_isClosed_42 : decode cX3_isClosed 42 = .ok (.goto 4, 3) := by decide +kernel
theorem dX3_isClosed_45 : decode cX3_isClosed 45 = .ok (.iconst 0, 1) := by decide +kernel
theorem dX3_isClosed_46 : decode cX3_isClosed 46 = .ok (.ireturn, 1) := by decide +kernel
set_option maxRecDepth 20000 in
theorem ggX3_wantingRelays_X3_fedRelays : GoodIn wsX3_wantingRelays wsX3_fedRelays := goodIn_r _ [7, 8, 9, 10, 6, 11, 12, 13, 14, 15, 16, 17, 18, 19, 1, 20, 21, 22, 23, 24, 25, 26, 27, 28, 29, 30, 31, 32, 33, 34, 35, 36] (by decide +kernel) (by decide +kernel)
set_option maxRecDepth 20000 in
theorem gX3_wantingRelays_X3_fedRelays : GoodIn wsX3_wantingRelays (wsV RX3 72 RX3 yX3_fedRelays wsX3_fedRelays) := goodIn_app (goodIn_of _ (by decide +kernel)) ggX3_wantingRelays_X3_fedRelays
theorem dX3_wantingRelays_0 : decode cX3_wantingRelays 0 = .ok (.aload_n 0, 1) := by decide +kernel
theorem dX3_wantingRelays_1 : decode cX3_wantingRelays 1 = .ok (.invokevirtual 72, 3) := by decide +kernel
theorem dX3_wantingRelays_4 : decode cX3_wantingRelays 4 = .ok (.aload_n 0, 1) := by decide +kernel
theorem dX3_wantingRelays_5 : decode cX3_wantingRelays 5 = .ok (.getfield 36, 3) := by decide +kernel
theorem dX3_wantingRelays_8 : decode cX3_wantingRelays 8 = .ok (.ixor, 1) := by decide +kernel
theorem dX3_wantingRelays_9 : decode cX3_wantingRelays 9 = .ok (.aload_n 0, 1) := by decide +kernel
theorem dX3_wantingRelays_10 : decode cX3_wantingRelays 10 = .ok (.getfield 36, 3) := by decide +kernel
theorem dX3_wantingRelays_13 : decode cX3_wantingRelays 13 = .ok (.aload_n 0, 1) := by decide +kernel
theorem dX3_wantingRelays_14 : decode cX3_wantingRelays 14 = .ok (.getfield 40, 3) := by decide +kernel
theorem dX3_wantingRelays_17 : decode cX3_wantingRelays 17 = .ok (.iand, 1) := by decide +kernel
theorem dX3_wantingRelays_18 : decode cX3_wantingRelays 18 = .ok (.iconst (-1), 1) := by decide +kernel
theorem dX3_wantingRelays_19 : decode cX3_wantingRelays 19 = .ok (.ixor, 1) := by decide +kernel
theorem dX3_wantingRelays_20 : decode cX3_wantingRelays 20 = .ok (.iand, 1) := by decide +kernel
theorem dX3_wantingRelays_21 : decode cX3_wantingRelays 21 = .ok (.ireturn, 1) := by decide +kernel
set_option maxRecDepth 20000 in
theorem ggX3_passTicks_X3_wantingRelays : GoodIn wsX3_passTicks wsX3_wantingRelays := goodIn_r _ [5, 6, 7, 8, 9, 10, 4, 11, 12, 13, 14, 15, 16, 17, 18, 19, 20, 21, 22, 23, 24, 25, 26, 51, 52, 53, 54, 55, 56, 57, 58, 59, 60, 61, 62, 63, 64] (by decide +kernel) (by decide +kernel)
set_option maxRecDepth 20000 in
theorem gX3_passTicks_X3_wantingRelays : GoodIn wsX3_passTicks (wsV RX3 76 RX3 yX3_wantingRelays wsX3_wantingRelays) := goodIn_app (goodIn_of _ (by decide +kernel)) ggX3_passTicks_X3_wantingRelays
set_option maxRecDepth 20000 in
theorem ggX3_passTicks_X3_passTick : GoodIn wsX3_passTicks wsX3_passTick := goodIn_r _ [30, 31, 32, 33, 18, 34, 35, 36, 37, 38, 39, 40, 4, 41, 6, 42, 43, 44, 45, 46, 47, 48, 49, 50, 7, 51, 52, 53, 54, 55, 56, 57, 58, 59, 60, 61, 62, 63, 64] (by decide +kernel) (by decide +kernel)
set_option maxRecDepth 20000 in
theorem gX3_passTicks_X3_passTick : GoodIn wsX3_passTicks (wsV RX3 79 RX3 yX3_passTick wsX3_passTick) := goodIn_app (goodIn_of _ (by decide +kernel)) ggX3_passTicks_X3_passTick
theorem dX3_passTicks_0 : decode cX3_passTicks 0 = .ok (.iconst 0, 1) := by decide +kernel
theorem dX3_passTicks_1 : decode cX3_passTicks 1 = .ok (.istore_n 2, 1) := by decide +kernel
theorem dX3_passTicks_2 : decode cX3_passTicks 2 = .ok (.iload_n 2, 1) := by decide +kernel
theorem dX3_passTicks_3 : decode cX3_passTicks 3 = .ok (.iload_n 1, 1) := by decide +kernel
theorem dX3_passTicks_4 : decode cX3_passTicks 4 = .ok (.if_icmp .ge 17, 3) := by decide +kernel
theorem dX3_passTicks_7 : decode cX3_passTicks 7 = .ok (.aload_n 0, 1) := by decide +kernel
theorem dX3_passTicks_8 : decode cX3_passTicks 8 = .ok (.aload_n 0, 1) := by decide +kernel
theorem dX3_passTicks_9 : decode cX3_passTicks 9 = .ok (.invokevirtual 76, 3) := by decide +kernel
theorem dX3_passTicks_12 : decode cX3_passTicks 12 = .ok (.invokevirtual 79, 3) := by decide +kernel
theorem dX3_passTicks_15 : decode cX3_passTicks 15 = .ok (.iinc 2 1, 3) := by decide +kernel
theorem dX3_passTicks_18 : decode cX3_passTicks 18 = .ok (.goto (-16), 3) := by decide +kernel
theorem dX3_passTicks_21 : decode cX3_passTicks 21 = .ok (.return_, 1) := by decide +kernel
set_option maxRecDepth 20000 in
theorem ggX3_ticksUntilRest_X3_wantingRelays : GoodIn wsX3_ticksUntilRest wsX3_wantingRelays := goodIn_r _ [5, 6, 7, 8, 9, 10, 4, 11, 12, 13, 14, 15, 16, 17, 18, 19, 20, 21, 22, 23, 24, 25, 26, 51, 52, 53, 54, 55, 56, 57, 58, 59, 60, 61, 62, 63, 64] (by decide +kernel) (by decide +kernel)
set_option maxRecDepth 20000 in
theorem gX3_ticksUntilRest_X3_wantingRelays : GoodIn wsX3_ticksUntilRest (wsV RX3 76 RX3 yX3_wantingRelays wsX3_wantingRelays) := goodIn_app (goodIn_of _ (by decide +kernel)) ggX3_ticksUntilRest_X3_wantingRelays
set_option maxRecDepth 20000 in
theorem ggX3_ticksUntilRest_X3_passTick : GoodIn wsX3_ticksUntilRest wsX3_passTick := goodIn_r _ [30, 31, 32, 33, 18, 34, 35, 36, 37, 38, 39, 40, 4, 41, 6, 42, 43, 44, 45, 46, 47, 48, 49, 50, 7, 51, 52, 53, 54, 55, 56, 57, 58, 59, 60, 61, 62, 63, 64] (by decide +kernel) (by decide +kernel)
set_option maxRecDepth 20000 in
theorem gX3_ticksUntilRest_X3_passTick : GoodIn wsX3_ticksUntilRest (wsV RX3 79 RX3 yX3_passTick wsX3_passTick) := goodIn_app (goodIn_of _ (by decide +kernel)) ggX3_ticksUntilRest_X3_passTick
theorem dX3_ticksUntilRest_0 : decode cX3_ticksUntilRest 0 = .ok (.iconst 0, 1) := by decide +kernel
theorem dX3_ticksUntilRest_1 : decode cX3_ticksUntilRest 1 = .ok (.istore_n 1, 1) := by decide +kernel
theorem dX3_ticksUntilRest_2 : decode cX3_ticksUntilRest 2 = .ok (.iload_n 1, 1) := by decide +kernel
theorem dX3_ticksUntilRest_3 : decode cX3_ticksUntilRest 3 = .ok (.sipush 200, 3) := by decide +kernel
theorem dX3_ticksUntilRest_6 : decode cX3_ticksUntilRest 6 = .ok (.if_icmp .ge 25, 3) := by decide +kernel
theorem dX3_ticksUntilRest_9 : decode cX3_ticksUntilRest 9 = .ok (.aload_n 0, 1) := by decide +kernel
theorem dX3_ticksUntilRest_10 : decode cX3_ticksUntilRest 10 = .ok (.invokevirtual 76, 3) := by decide +kernel
theorem dX3_ticksUntilRest_13 : decode cX3_ticksUntilRest 13 = .ok (.istore_n 2, 1) := by decide +kernel
theorem dX3_ticksUntilRest_14 : decode cX3_ticksUntilRest 14 = .ok (.iload_n 2, 1) := by decide +kernel
theorem dX3_ticksUntilRest_15 : decode cX3_ticksUntilRest 15 = .ok (.ifCond .ne 5, 3) := by decide +kernel
theorem dX3_ticksUntilRest_18 : decode cX3_ticksUntilRest 18 = .ok (.iload_n 1, 1) := by decide +kernel
theorem dX3_ticksUntilRest_19 : decode cX3_ticksUntilRest 19 = .ok (.ireturn, 1) := by decide +kernel
theorem dX3_ticksUntilRest_20 : decode cX3_ticksUntilRest 20 = .ok (.aload_n 0, 1) := by decide +kernel
theorem dX3_ticksUntilRest_21 : decode cX3_ticksUntilRest 21 = .ok (.iload_n 2, 1) := by decide +kernel
theorem dX3_ticksUntilRest_22 : decode cX3_ticksUntilRest 22 = .ok (.invokevirtual 79, 3) := by decide +kernel
theorem dX3_ticksUntilRest_25 : decode cX3_ticksUntilRest 25 = .ok (.iinc 1 1, 3) := by decide +kernel
theorem dX3_ticksUntilRest_28 : decode cX3_ticksUntilRest 28 = .ok (.goto (-26), 3) := by decide +kernel
theorem dX3_ticksUntilRest_31 : decode cX3_ticksUntilRest 31 = .ok (.aload_n 0, 1) := by decide +kernel
theorem dX3_ticksUntilRest_32 : decode cX3_ticksUntilRest 32 = .ok (.invokevirtual 76, 3) := by decide +kernel
theorem dX3_ticksUntilRest_35 : decode cX3_ticksUntilRest 35 = .ok (.ifCond .ne 9, 3) := by decide +kernel
theorem dX3_ticksUntilRest_38 : decode cX3_ticksUntilRest 38 = .ok (.sipush 200, 3) := by decide +kernel
theorem dX3_ticksUntilRest_41 : decode cX3_ticksUntilRest 41 = .ok (.goto 6, 3) := by decide +kernel
theorem dX3_ticksUntilRest_44 : decode cX3_ticksUntilRest 44 = .ok (.sipush 1200, 3) := by decide +kernel
theorem dX3_ticksUntilRest_47 : decode cX3_ticksUntilRest 47 = .ok (.ireturn, 1) := by decide +kernel
set_option maxRecDepth 20000 in
theorem ggX3_upAtRest_X3_ticksUntilRest : GoodIn wsX3_upAtRest wsX3_ticksUntilRest := goodIn_r _ [6, 7, 8, 9, 5, 10, 1, 11, 12, 13, 14, 15, 16, 17, 18, 19, 20, 21, 22, 23, 24, 25, 26, 27, 28, 29, 30, 31, 32, 33, 34, 35, 36, 37, 38, 39, 40, 41, 42, 43, 44, 45, 46, 47, 48, 49, 50, 51, 52, 53, 54, 55, 56, 57, 58, 59, 60, 61, 62, 63, 64, 65, 66, 67, 68] (by decide +kernel) (by decide +kernel)
set_option maxRecDepth 20000 in
theorem gX3_upAtRest_X3_ticksUntilRest : GoodIn wsX3_upAtRest (wsV RX3 83 RX3 yX3_ticksUntilRest wsX3_ticksUntilRest) := goodIn_app (goodIn_of _ (by decide +kernel)) ggX3_upAtRest_X3_ticksUntilRest
theorem dX3_upAtRest_0 : decode cX3_upAtRest 0 = .ok (.aload_n 0, 1) := by decide +kernel
theorem dX3_upAtRest_1 : decode cX3_upAtRest 1 = .ok (.invokevirtual 83, 3) := by decide +kernel
theorem dX3_upAtRest_4 : decode cX3_upAtRest 4 = .ok (.sipush 200, 3) := by decide +kernel
theorem dX3_upAtRest_7 : decode cX3_upAtRest 7 = .ok (.if_icmp .gt 10, 3) := by decide +kernel
theorem dX3_upAtRest_10 : decode cX3_upAtRest 10 = .ok (.aload_n 0, 1) := by decide +kernel
theorem dX3_upAtRest_11 : decode cX3_upAtRest 11 = .ok (.getfield 36, 3) := by decide +kernel
theorem dX3_upAtRest_14 : decode cX3_upAtRest 14 = .ok (.goto 5, 3) := by decide +kernel
theorem dX3_upAtRest_17 : decode cX3_upAtRest 17 = .ok (.bipush (-6), 2) := by decide +kernel
theorem dX3_upAtRest_19 : decode cX3_upAtRest 19 = .ok (.ireturn, 1) := by decide +kernel
set_option maxRecDepth 20000 in
theorem ggX3_passTick_X4_isIn : GoodIn wsX3_passTick wsX4_isIn := goodIn_r _ [5, 6, 7, 4, 8] (by decide +kernel) (by decide +kernel)
set_option maxRecDepth 20000 in
theorem gX3_passTick_X4_isIn_n86 : GoodIn wsX3_passTick (wsX4_isIn) := ggX3_passTick_X4_isIn
set_option maxRecDepth 20000 in
theorem ggX3_passTick_X3_waitOrMove : GoodIn wsX3_passTick wsX3_waitOrMove := goodIn_r _ [13, 2, 14, 15, 16, 17, 3, 4, 5, 6, 7, 8, 18, 19, 20, 12, 21, 22, 23, 24, 25, 26, 27, 28, 29, 30, 31, 32, 33, 34, 35, 36, 37, 38] (by decide +kernel) (by decide +kernel)
set_option maxRecDepth 20000 in
theorem gX3_passTick_X3_waitOrMove : GoodIn wsX3_passTick (wsV RX3 90 RX3 yX3_waitOrMove wsX3_waitOrMove) := goodIn_app (goodIn_of _ (by decide +kernel)) ggX3_passTick_X3_waitOrMove
theorem dX3_passTick_0 : decode cX3_passTick 0 = .ok (.aload_n 0, 1) := by decide +kernel
theorem dX3_passTick_1 : decode cX3_passTick 1 = .ok (.dup, 1) := by decide +kernel
theorem dX3_passTick_2 : decode cX3_passTick 2 = .ok (.getfield 49, 3) := by decide +kernel
theorem dX3_passTick_5 : decode cX3_passTick 5 = .ok (.iconst 1, 1) := by decide +kernel
theorem dX3_passTick_6 : decode cX3_passTick 6 = .ok (.iadd, 1) := by decide +kernel
theorem dX3_passTick_7 : decode cX3_passTick 7 = .ok (.putfield 49, 3) := by decide +kernel
theorem dX3_passTick_10 : decode cX3_passTick 10 = .ok (.iconst 0, 1) := by decide +kernel
theorem dX3_passTick_11 : decode cX3_passTick 11 = .ok (.istore_n 2, 1) := by decide +kernel
theorem dX3_passTick_12 : decode cX3_passTick 12 = .ok (.iload_n 2, 1) := by decide +kernel
theorem dX3_passTick_13 : decode cX3_passTick 13 = .ok (.bipush 10, 2) := by decide +kernel
theorem dX3_passTick_15 : decode cX3_passTick 15 = .ok (.if_icmp .ge 32, 3) := by decide +kernel
theorem dX3_passTick_18 : decode cX3_passTick 18 = .ok (.iload_n 1, 1) := by decide +kernel
theorem dX3_passTick_19 : decode cX3_passTick 19 = .ok (.iload_n 2, 1) := by decide +kernel
theorem dX3_passTick_20 : decode cX3_passTick 20 = .ok (.invokestatic 86, 3) := by decide +kernel
theorem dX3_passTick_23 : decode cX3_passTick 23 = .ok (.ifCond .eq 11, 3) := by decide +kernel
theorem dX3_passTick_26 : decode cX3_passTick 26 = .ok (.aload_n 0, 1) := by decide +kernel
theorem dX3_passTick_27 : decode cX3_passTick 27 = .ok (.iload_n 2, 1) := by decide +kernel
theorem dX3_passTick_28 : decode cX3_passTick 28 = .ok (.invokevirtual 90, 3) := by decide +kernel
theorem dX3_passTick_31 : decode cX3_passTick 31 = .ok (.goto 10, 3) := by decide +kernel
theorem dX3_passTick_34 : decode cX3_passTick 34 = .ok (.aload_n 0, 1) := by decide +kernel
theorem dX3_passTick_35 : decode cX3_passTick 35 = .ok (.getfield 18, 3) := by decide +kernel
theorem dX3_passTick_38 : decode cX3_passTick 38 = .ok (.iload_n 2, 1) := by decide +kernel
theorem dX3_passTick_39 : decode cX3_passTick 39 = .ok (.iconst 0, 1) := by decide +kernel
theorem dX3_passTick_40 : decode cX3_passTick 40 = .ok (.iastore, 1) := by decide +kernel
theorem dX3_passTick_41 : decode cX3_passTick 41 = .ok (.iinc 2 1, 3) := by decide +kernel
theorem dX3_passTick_44 : decode cX3_passTick 44 = .ok (.goto (-32), 3) := by decide +kernel
theorem dX3_passTick_47 : decode cX3_passTick 47 = .ok (.return_, 1) := by decide +kernel
set_option maxRecDepth 20000 in
theorem ggX3_waitOrMove_X4_isIn : GoodIn wsX3_waitOrMove wsX4_isIn := goodIn_r _ [8, 9, 10, 7, 11] (by decide +kernel) (by decide +kernel)
set_option maxRecDepth 20000 in
theorem gX3_waitOrMove_X4_isIn_n86 : GoodIn wsX3_waitOrMove (wsX4_isIn) := ggX3_waitOrMove_X4_isIn
set_option maxRecDepth 20000 in
theorem ggX3_waitOrMove_X3_wear : GoodIn wsX3_waitOrMove wsX3_wear := goodIn_r _ [16, 17, 18, 19, 20, 21, 22, 23, 24, 25, 26, 27, 28, 29, 30, 31, 32, 33] (by decide +kernel) (by decide +kernel)
set_option maxRecDepth 20000 in
theorem gX3_waitOrMove_X3_wear : GoodIn wsX3_waitOrMove (wsV RX3 93 RX3 yX3_wear wsX3_wear) := goodIn_app (goodIn_of _ (by decide +kernel)) ggX3_waitOrMove_X3_wear
theorem dX3_waitOrMove_0 : decode cX3_waitOrMove 0 = .ok (.aload_n 0, 1) := by decide +kernel
theorem dX3_waitOrMove_1 : decode cX3_waitOrMove 1 = .ok (.getfield 18, 3) := by decide +kernel
theorem dX3_waitOrMove_4 : decode cX3_waitOrMove 4 = .ok (.iload_n 1, 1) := by decide +kernel
theorem dX3_waitOrMove_5 : decode cX3_waitOrMove 5 = .ok (.dup2, 1) := by decide +kernel
theorem dX3_waitOrMove_6 : decode cX3_waitOrMove 6 = .ok (.iaload, 1) := by decide +kernel
theorem dX3_waitOrMove_7 : decode cX3_waitOrMove 7 = .ok (.iconst 1, 1) := by decide +kernel
theorem dX3_waitOrMove_8 : decode cX3_waitOrMove 8 = .ok (.iadd, 1) := by decide +kernel
theorem dX3_waitOrMove_9 : decode cX3_waitOrMove 9 = .ok (.iastore, 1) := by decide +kernel
theorem dX3_waitOrMove_10 : decode cX3_waitOrMove 10 = .ok (.aload_n 0, 1) := by decide +kernel
theorem dX3_waitOrMove_11 : decode cX3_waitOrMove 11 = .ok (.getfield 36, 3) := by decide +kernel
theorem dX3_waitOrMove_14 : decode cX3_waitOrMove 14 = .ok (.iload_n 1, 1) := by decide +kernel
theorem dX3_waitOrMove_15 : decode cX3_waitOrMove 15 = .ok (.invokestatic 86, 3) := by decide +kernel
theorem dX3_waitOrMove_18 : decode cX3_waitOrMove 18 = .ok (.ifCond .eq 12, 3) := by decide +kernel
theorem dX3_waitOrMove_21 : decode cX3_waitOrMove 21 = .ok (.aload_n 0, 1) := by decide +kernel
theorem dX3_waitOrMove_22 : decode cX3_waitOrMove 22 = .ok (.getfield 15, 3) := by decide +kernel
theorem dX3_waitOrMove_25 : decode cX3_waitOrMove 25 = .ok (.iload_n 1, 1) := by decide +kernel
theorem dX3_waitOrMove_26 : decode cX3_waitOrMove 26 = .ok (.iaload, 1) := by decide +kernel
theorem dX3_waitOrMove_27 : decode cX3_waitOrMove 27 = .ok (.goto 9, 3) := by decide +kernel
theorem dX3_waitOrMove_30 : decode cX3_waitOrMove 30 = .ok (.aload_n 0, 1) := by decide +kernel
theorem dX3_waitOrMove_31 : decode cX3_waitOrMove 31 = .ok (.getfield 9, 3) := by decide +kernel
theorem dX3_waitOrMove_34 : decode cX3_waitOrMove 34 = .ok (.iload_n 1, 1) := by decide +kernel
theorem dX3_waitOrMove_35 : decode cX3_waitOrMove 35 = .ok (.iaload, 1) := by decide +kernel
theorem dX3_waitOrMove_36 : decode cX3_waitOrMove 36 = .ok (.istore_n 2, 1) := by decide +kernel
theorem dX3_waitOrMove_37 : decode cX3_waitOrMove 37 = .ok (.aload_n 0, 1) := by decide +kernel
theorem dX3_waitOrMove_38 : decode cX3_waitOrMove 38 = .ok (.getfield 18, 3) := by decide +kernel
theorem dX3_waitOrMove_41 : decode cX3_waitOrMove 41 = .ok (.iload_n 1, 1) := by decide +kernel
theorem dX3_waitOrMove_42 : decode cX3_waitOrMove 42 = .ok (.iaload, 1) := by decide +kernel
theorem dX3_waitOrMove_43 : decode cX3_waitOrMove 43 = .ok (.iload_n 2, 1) := by decide +kernel
theorem dX3_waitOrMove_44 : decode cX3_waitOrMove 44 = .ok (.if_icmp .lt 48, 3) := by decide +kernel
theorem dX3_waitOrMove_47 : decode cX3_waitOrMove 47 = .ok (.aload_n 0, 1) := by decide +kernel
theorem dX3_waitOrMove_48 : decode cX3_waitOrMove 48 = .ok (.getfield 18, 3) := by decide +kernel
theorem dX3_waitOrMove_51 : decode cX3_waitOrMove 51 = .ok (.iload_n 1, 1) := by decide +kernel
theorem dX3_waitOrMove_52 : decode cX3_waitOrMove 52 = .ok (.iconst 0, 1) := by decide +kernel
theorem dX3_waitOrMove_53 : decode cX3_waitOrMove 53 = .ok (.iastore, 1) := by decide +kernel
theorem dX3_waitOrMove_54 : decode cX3_waitOrMove 54 = .ok (.aload_n 0, 1) := by decide +kernel
theorem dX3_waitOrMove_55 : decode cX3_waitOrMove 55 = .ok (.dup, 1) := by decide +kernel
theorem dX3_waitOrMove_56 : decode cX3_waitOrMove 56 = .ok (.getfield 52, 3) := by decide +kernel
theorem dX3_waitOrMove_59 : decode cX3_waitOrMove 59 = .ok (.iconst 1, 1) := by decide +kernel
theorem dX3_waitOrMove_60 : decode cX3_waitOrMove 60 = .ok (.iadd, 1) := by decide +kernel
theorem dX3_waitOrMove_61 : decode cX3_waitOrMove 61 = .ok (.putfield 52, 3) := by decide +kernel
theorem dX3_waitOrMove_64 : decode cX3_waitOrMove 64 = .ok (.aload_n 0, 1) := by decide +kernel
theorem dX3_waitOrMove_65 : decode cX3_waitOrMove 65 = .ok (.dup, 1) := by decide +kernel
theorem dX3_waitOrMove_66 : decode cX3_waitOrMove 66 = .ok (.getfield 36, 3) := by decide +kernel
theorem dX3_waitOrMove_69 : decode cX3_waitOrMove 69 = .ok (.iconst 1, 1) := by decide +kernel
theorem dX3_waitOrMove_70 : decode cX3_waitOrMove 70 = .ok (.iload_n 1, 1) := by decide +kernel
theorem dX3_waitOrMove_71 : decode cX3_waitOrMove 71 = .ok (.ishl, 1) := by decide +kernel
theorem dX3_waitOrMove_72 : decode cX3_waitOrMove 72 = .ok (.ixor, 1) := by decide +kernel
theorem dX3_waitOrMove_73 : decode cX3_waitOrMove 73 = .ok (.putfield 36, 3) := by decide +kernel
theorem dX3_waitOrMove_76 : decode cX3_waitOrMove 76 = .ok (.aload_n 0, 1) := by decide +kernel
theorem dX3_waitOrMove_77 : decode cX3_waitOrMove 77 = .ok (.getfield 36, 3) := by decide +kernel
theorem dX3_waitOrMove_80 : decode cX3_waitOrMove 80 = .ok (.iload_n 1, 1) := by decide +kernel
theorem dX3_waitOrMove_81 : decode cX3_waitOrMove 81 = .ok (.invokestatic 86, 3) := by decide +kernel
theorem dX3_waitOrMove_84 : decode cX3_waitOrMove 84 = .ok (.ifCond .eq 8, 3) := by decide +kernel
theorem dX3_waitOrMove_87 : decode cX3_waitOrMove 87 = .ok (.aload_n 0, 1) := by decide +kernel
theorem dX3_waitOrMove_88 : decode cX3_waitOrMove 88 = .ok (.iload_n 1, 1) := by decide +kernel
theorem dX3_waitOrMove_89 : decode cX3_waitOrMove 89 = .ok (.invokevirtual 93, 3) := by decide +kernel
theorem dX3_waitOrMove_92 : decode cX3_waitOrMove 92 = .ok (.return_, 1) := by decide +kernel
theorem dX3_wear_0 : decode cX3_wear 0 = .ok (.aload_n 0, 1) := by decide +kernel
theorem dX3_wear_1 : decode cX3_wear 1 = .ok (.getfield 21, 3) := by decide +kernel
theorem dX3_wear_4 : decode cX3_wear 4 = .ok (.iload_n 1, 1) := by decide +kernel
theorem dX3_wear_5 : decode cX3_wear 5 = .ok (.dup2, 1) := by decide +kernel
theorem dX3_wear_6 : decode cX3_wear 6 = .ok (.iaload, 1) := by decide +kernel
theorem dX3_wear_7 : decode cX3_wear 7 = .ok (.iconst 1, 1) := by decide +kernel
theorem dX3_wear_8 : decode cX3_wear 8 = .ok (.iadd, 1) := by decide +kernel
theorem dX3_wear_9 : decode cX3_wear 9 = .ok (.iastore, 1) := by decide +kernel
theorem dX3_wear_10 : decode cX3_wear 10 = .ok (.aload_n 0, 1) := by decide +kernel
theorem dX3_wear_11 : decode cX3_wear 11 = .ok (.getfield 46, 3) := by decide +kernel
theorem dX3_wear_14 : decode cX3_wear 14 = .ok (.ifCond .eq 28, 3) := by decide +kernel
theorem dX3_wear_17 : decode cX3_wear 17 = .ok (.aload_n 0, 1) := by decide +kernel
theorem dX3_wear_18 : decode cX3_wear 18 = .ok (.getfield 21, 3) := by decide +kernel
theorem dX3_wear_21 : decode cX3_wear 21 = .ok (.iload_n 1, 1) := by decide +kernel
theorem dX3_wear_22 : decode cX3_wear 22 = .ok (.iaload, 1) := by decide +kernel
theorem dX3_wear_23 : decode cX3_wear 23 = .ok (.aload_n 0, 1) := by decide +kernel
theorem dX3_wear_24 : decode cX3_wear 24 = .ok (.getfield 46, 3) := by decide +kernel
theorem dX3_wear_27 : decode cX3_wear 27 = .ok (.if_icmp .lt 15, 3) := by decide +kernel
theorem dX3_wear_30 : decode cX3_wear 30 = .ok (.aload_n 0, 1) := by decide +kernel
theorem dX3_wear_31 : decode cX3_wear 31 = .ok (.dup, 1) := by decide +kernel
theorem dX3_wear_32 : decode cX3_wear 32 = .ok (.getfield 40, 3) := by decide +kernel
theorem dX3_wear_35 : decode cX3_wear 35 = .ok (.iconst 1, 1) := by decide +kernel
theorem dX3_wear_36 : decode cX3_wear 36 = .ok (.iload_n 1, 1) := by decide +kernel
theorem dX3_wear_37 : decode cX3_wear 37 = .ok (.ishl, 1) := by decide +kernel
theorem dX3_wear_38 : decode cX3_wear 38 = .ok (.ior, 1) := by decide +kernel
theorem dX3_wear_39 : decode cX3_wear 39 = .ok (.putfield 40, 3) := by decide +kernel
theorem dX3_wear_42 : decode cX3_wear 42 = .ok (.return_, 1) := by decide +kernel
theorem dX3_clearCircuit_0 : decode cX3_clearCircuit 0 = .ok (.aload_n 0, 1) := by decide +kernel
theorem dX3_clearCircuit_1 : decode cX3_clearCircuit 1 = .ok (.getfield 24, 3) := by decide +kernel
theorem dX3_clearCircuit_4 : decode cX3_clearCircuit 4 = .ok (.iload_n 1, 1) := by decide +kernel
theorem dX3_clearCircuit_5 : decode cX3_clearCircuit 5 = .ok (.iconst 0, 1) := by decide +kernel
theorem dX3_clearCircuit_6 : decode cX3_clearCircuit 6 = .ok (.iastore, 1) := by decide +kernel
theorem dX3_clearCircuit_7 : decode cX3_clearCircuit 7 = .ok (.return_, 1) := by decide +kernel
theorem dX3_hasRoomForBranch_0 : decode cX3_hasRoomForBranch 0 = .ok (.aload_n 0, 1) := by decide +kernel
theorem dX3_hasRoomForBranch_1 : decode cX3_hasRoomForBranch 1 = .ok (.getfield 24, 3) := by decide +kernel
theorem dX3_hasRoomForBranch_4 : decode cX3_hasRoomForBranch 4 = .ok (.iload_n 1, 1) := by decide +kernel
theorem dX3_hasRoomForBranch_5 : decode cX3_hasRoomForBranch 5 = .ok (.iaload, 1) := by decide +kernel
theorem dX3_hasRoomForBranch_6 : decode cX3_hasRoomForBranch 6 = .ok (.bipush 6, 2) := by decide +kernel
theorem dX3_hasRoomForBranch_8 : decode cX3_hasRoomForBranch 8 = .ok (.if_icmp .ge 7, 3) := by decide +kernel
theorem dX3_hasRoomForBranch_11 : decode cX3_hasRoomForBranch 11 = .ok (.iconst 1, 1) := by decide +kernel
theorem dX3_hasRoomForBranch_12 : decode cX3_hasRoomForBranch 12 = .ok (.goto 4, 3) := by decide +kernel
theorem dX3_hasRoomForBranch_15 : decode cX3_hasRoomForBranch 15 = .ok (.iconst 0, 1) := by decide +kernel
theorem dX3_hasRoomForBranch_16 : decode cX3_hasRoomForBranch 16 = .ok (.ireturn, 1) := by decide +kernel
set_option maxRecDepth 20000 in
theorem ggX3_addBranch_X3_hasRoomForBranch : GoodIn wsX3_addBranch wsX3_hasRoomForBranch := goodIn_r _ [9, 1, 13, 14, 15, 16, 17, 18, 19, 20, 21, 22, 23, 24, 25, 26] (by decide +kernel) (by decide +kernel)
set_option maxRecDepth 20000 in
theorem gX3_addBranch_X3_hasRoomForBranch : GoodIn wsX3_addBranch (wsV RX3 96 RX3 yX3_hasRoomForBranch wsX3_hasRoomForBranch) := goodIn_app (goodIn_of _ (by decide +kernel)) ggX3_addBranch_X3_hasRoomForBranch
set_option maxRecDepth 20000 in
theorem ggX3_addBranch_X4_placeOf : GoodIn wsX3_addBranch wsX4_placeOf := goodIn_r _ [12] (by decide +kernel) (by decide +kernel)
set_option maxRecDepth 20000 in
theorem gX3_addBranch_X4_placeOf_n65 : GoodIn wsX3_addBranch (wsX4_placeOf) := ggX3_addBranch_X4_placeOf
theorem dX3_addBranch_0 : decode cX3_addBranch 0 = .ok (.aload_n 0, 1) := by decide +kernel
theorem dX3_addBranch_1 : decode cX3_addBranch 1 = .ok (.iload_n 1, 1) := by decide +kernel
theorem dX3_addBranch_2 : decode cX3_addBranch 2 = .ok (.invokevirtual 96, 3) := by decide +kernel
theorem dX3_addBranch_5 : decode cX3_addBranch 5 = .ok (.ifCond .eq 45, 3) := by decide +kernel
theorem dX3_addBranch_8 : decode cX3_addBranch 8 = .ok (.iload_n 1, 1) := by decide +kernel
theorem dX3_addBranch_9 : decode cX3_addBranch 9 = .ok (.aload_n 0, 1) := by decide +kernel
theorem dX3_addBranch_10 : decode cX3_addBranch 10 = .ok (.getfield 24, 3) := by decide +kernel
theorem dX3_addBranch_13 : decode cX3_addBranch 13 = .ok (.iload_n 1, 1) := by decide +kernel
theorem dX3_addBranch_14 : decode cX3_addBranch 14 = .ok (.iaload, 1) := by decide +kernel
theorem dX3_addBranch_15 : decode cX3_addBranch 15 = .ok (.invokestatic 65, 3) := by decide +kernel
theorem dX3_addBranch_18 : decode cX3_addBranch 18 = .ok (.istore_n 2, 1) := by decide +kernel
theorem dX3_addBranch_19 : decode cX3_addBranch 19 = .ok (.aload_n 0, 1) := by decide +kernel
theorem dX3_addBranch_20 : decode cX3_addBranch 20 = .ok (.getfield 27, 3) := by decide +kernel
theorem dX3_addBranch_23 : decode cX3_addBranch 23 = .ok (.iload_n 2, 1) := by decide +kernel
theorem dX3_addBranch_24 : decode cX3_addBranch 24 = .ok (.iconst 0, 1) := by decide +kernel
theorem dX3_addBranch_25 : decode cX3_addBranch 25 = .ok (.iastore, 1) := by decide +kernel
theorem dX3_addBranch_26 : decode cX3_addBranch 26 = .ok (.aload_n 0, 1) := by decide +kernel
theorem dX3_addBranch_27 : decode cX3_addBranch 27 = .ok (.getfield 30, 3) := by decide +kernel
theorem dX3_addBranch_30 : decode cX3_addBranch 30 = .ok (.iload_n 2, 1) := by decide +kernel
theorem dX3_addBranch_31 : decode cX3_addBranch 31 = .ok (.iconst 0, 1) := by decide +kernel
theorem dX3_addBranch_32 : decode cX3_addBranch 32 = .ok (.iastore, 1) := by decide +kernel
theorem dX3_addBranch_33 : decode cX3_addBranch 33 = .ok (.aload_n 0, 1) := by decide +kernel
theorem dX3_addBranch_34 : decode cX3_addBranch 34 = .ok (.getfield 33, 3) := by decide +kernel
theorem dX3_addBranch_37 : decode cX3_addBranch 37 = .ok (.iload_n 2, 1) := by decide +kernel
theorem dX3_addBranch_38 : decode cX3_addBranch 38 = .ok (.iconst 0, 1) := by decide +kernel
theorem dX3_addBranch_39 : decode cX3_addBranch 39 = .ok (.iastore, 1) := by decide +kernel
theorem dX3_addBranch_40 : decode cX3_addBranch 40 = .ok (.aload_n 0, 1) := by decide +kernel
theorem dX3_addBranch_41 : decode cX3_addBranch 41 = .ok (.getfield 24, 3) := by decide +kernel
theorem dX3_addBranch_44 : decode cX3_addBranch 44 = .ok (.iload_n 1, 1) := by decide +kernel
theorem dX3_addBranch_45 : decode cX3_addBranch 45 = .ok (.dup2, 1) := by decide +kernel
theorem dX3_addBranch_46 : decode cX3_addBranch 46 = .ok (.iaload, 1) := by decide +kernel
theorem dX3_addBranch_47 : decode cX3_addBranch 47 = .ok (.iconst 1, 1) := by decide +kernel
theorem dX3_addBranch_48 : decode cX3_addBranch 48 = .ok (.iadd, 1) := by decide +kernel
theorem dX3_addBranch_49 : decode cX3_addBranch 49 = .ok (.iastore, 1) := by decide +kernel
theorem dX3_addBranch_50 : decode cX3_addBranch 50 = .ok (.return_, 1) := by decide +kernel
set_option maxRecDepth 20000 in
theorem ggX3_hasRoomForContact_X4_placeOf : GoodIn wsX3_hasRoomForContact wsX4_placeOf := goodIn_r _ [5] (by decide +kernel) (by decide +kernel)
set_option maxRecDepth 20000 in
theorem gX3_hasRoomForContact_X4_placeOf_n65 : GoodIn wsX3_hasRoomForContact (wsX4_placeOf) := ggX3_hasRoomForContact_X4_placeOf
theorem dX3_hasRoomForContact_0 : decode cX3_hasRoomForContact 0 = .ok (.aload_n 0, 1) := by decide +kernel
theorem dX3_hasRoomForContact_1 : decode cX3_hasRoomForContact 1 = .ok (.getfield 24, 3) := by decide +kernel
theorem dX3_hasRoomForContact_4 : decode cX3_hasRoomForContact 4 = .ok (.iload_n 1, 1) := by decide +kernel
theorem dX3_hasRoomForContact_5 : decode cX3_hasRoomForContact 5 = .ok (.iaload, 1) := by decide +kernel
theorem dX3_hasRoomForContact_6 : decode cX3_hasRoomForContact 6 = .ok (.iconst 1, 1) := by decide +kernel
theorem dX3_hasRoomForContact_7 : decode cX3_hasRoomForContact 7 = .ok (.isub, 1) := by decide +kernel
theorem dX3_hasRoomForContact_8 : decode cX3_hasRoomForContact 8 = .ok (.istore_n 2, 1) := by decide +kernel
theorem dX3_hasRoomForContact_9 : decode cX3_hasRoomForContact 9 = .ok (.iload_n 2, 1) := by decide +kernel
theorem dX3_hasRoomForContact_10 : decode cX3_hasRoomForContact 10 = .ok (.ifCond .lt 22, 3) := by decide +kernel
theorem dX3_hasRoomForContact_13 : decode cX3_hasRoomForContact 13 = .ok (.aload_n 0, 1) := by decide +kernel
theorem dX3_hasRoomForContact_14 : decode cX3_hasRoomForContact 14 = .ok (.getfield 33, 3) := by decide +kernel
theorem dX3_hasRoomForContact_17 : decode cX3_hasRoomForContact 17 = .ok (.iload_n 1, 1) := by decide +kernel
theorem dX3_hasRoomForContact_18 : decode cX3_hasRoomForContact 18 = .ok (.iload_n 2, 1) := by decide +kernel
theorem dX3_hasRoomForContact_19 : decode cX3_hasRoomForContact 19 = .ok (.invokestatic 65, 3) := by decide +kernel
theorem dX3_hasRoomForContact_22 : decode cX3_hasRoomForContact 22 = .ok (.iaload, 1) := by decide +kernel
theorem dX3_hasRoomForContact_23 : decode cX3_hasRoomForContact 23 = .ok (.bipush 8, 2) := by decide +kernel
theorem dX3_hasRoomForContact_25 : decode cX3_hasRoomForContact 25 = .ok (.if_icmp .ge 7, 3) := by decide +kernel
theorem dX3_hasRoomForContact_28 : decode cX3_hasRoomForContact 28 = .ok (.iconst 1, 1) := by decide +kernel
theorem dX3_hasRoomForContact_29 : decode cX3_hasRoomForContact 29 = .ok (.goto 4, 3) := by decide +kernel
theorem dX3_hasRoomForContact_32 : decode cX3_hasRoomForContact 32 = .ok (.iconst 0, 1) := by decide +kernel
theorem dX3_hasRoomForContact_33 : decode cX3_hasRoomForContact 33 = .ok (.ireturn, 1) := by decide +kernel
set_option maxRecDepth 20000 in
theorem ggX3_addContact_X4_placeOf : GoodIn wsX3_addContact wsX4_placeOf := goodIn_r _ [7] (by decide +kernel) (by decide +kernel)
set_option maxRecDepth 20000 in
theorem gX3_addContact_X4_placeOf_n65 : GoodIn wsX3_addContact (wsX4_placeOf) := ggX3_addContact_X4_placeOf
theorem dX3_addContact_0 : decode cX3_addContact 0 = .ok (.aload_n 0, 1) := by decide +kernel
theorem dX3_addContact_1 : decode cX3_addContact 1 = .ok (.getfield 24, 3) := by decide +kernel
theorem dX3_addContact_4 : decode cX3_addContact 4 = .ok (.iload_n 1, 1) := by decide +kernel
theorem dX3_addContact_5 : decode cX3_addContact 5 = .ok (.iaload, 1) := by decide +kernel
theorem dX3_addContact_6 : decode cX3_addContact 6 = .ok (.iconst 1, 1) := by decide +kernel
theorem dX3_addContact_7 : decode cX3_addContact 7 = .ok (.isub, 1) := by decide +kernel
theorem dX3_addContact_8 : decode cX3_addContact 8 = .ok (.istore 4, 2) := by decide +kernel
theorem dX3_addContact_10 : decode cX3_addContact 10 = .ok (.iload 4, 2) := by decide +kernel
theorem dX3_addContact_12 : decode cX3_addContact 12 = .ok (.ifCond .lt 50, 3) := by decide +kernel
theorem dX3_addContact_15 : decode cX3_addContact 15 = .ok (.iload_n 1, 1) := by decide +kernel
theorem dX3_addContact_16 : decode cX3_addContact 16 = .ok (.iload 4, 2) := by decide +kernel
theorem dX3_addContact_18 : decode cX3_addContact 18 = .ok (.invokestatic 65, 3) := by decide +kernel
theorem dX3_addContact_21 : decode cX3_addContact 21 = .ok (.istore 5, 2) := by decide +kernel
theorem dX3_addContact_23 : decode cX3_addContact 23 = .ok (.iload_n 3, 1) := by decide +kernel
theorem dX3_addContact_24 : decode cX3_addContact 24 = .ok (.ifCond .eq 10, 3) := by decide +kernel
theorem dX3_addContact_27 : decode cX3_addContact 27 = .ok (.aload_n 0, 1) := by decide +kernel
theorem dX3_addContact_28 : decode cX3_addContact 28 = .ok (.getfield 30, 3) := by decide +kernel
theorem dX3_addContact_31 : decode cX3_addContact 31 = .ok (.goto 7, 3) := by decide +kernel
theorem dX3_addContact_34 : decode cX3_addContact 34 = .ok (.aload_n 0, 1) := by decide +kernel
theorem dX3_addContact_35 : decode cX3_addContact 35 = .ok (.getfield 27, 3) := by decide +kernel
theorem dX3_addContact_38 : decode cX3_addContact 38 = .ok (.astore 6, 2) := by decide +kernel
theorem dX3_addContact_40 : decode cX3_addContact 40 = .ok (.aload 6, 2) := by decide +kernel
theorem dX3_addContact_42 : decode cX3_addContact 42 = .ok (.iload 5, 2) := by decide +kernel
theorem dX3_addContact_44 : decode cX3_addContact 44 = .ok (.dup2, 1) := by decide +kernel
theorem dX3_addContact_45 : decode cX3_addContact 45 = .ok (.iaload, 1) := by decide +kernel
theorem dX3_addContact_46 : decode cX3_addContact 46 = .ok (.iconst 1, 1) := by decide +kernel
theorem dX3_addContact_47 : decode cX3_addContact 47 = .ok (.iload_n 2, 1) := by decide +kernel
theorem dX3_addContact_48 : decode cX3_addContact 48 = .ok (.ishl, 1) := by decide +kernel
theorem dX3_addContact_49 : decode cX3_addContact 49 = .ok (.ior, 1) := by decide +kernel
theorem dX3_addContact_50 : decode cX3_addContact 50 = .ok (.iastore, 1) := by decide +kernel
theorem dX3_addContact_51 : decode cX3_addContact 51 = .ok (.aload_n 0, 1) := by decide +kernel
theorem dX3_addContact_52 : decode cX3_addContact 52 = .ok (.getfield 33, 3) := by decide +kernel
theorem dX3_addContact_55 : decode cX3_addContact 55 = .ok (.iload 5, 2) := by decide +kernel
theorem dX3_addContact_57 : decode cX3_addContact 57 = .ok (.dup2, 1) := by decide +kernel
theorem dX3_addContact_58 : decode cX3_addContact 58 = .ok (.iaload, 1) := by decide +kernel
theorem dX3_addContact_59 : decode cX3_addContact 59 = .ok (.iconst 1, 1) := by decide +kernel
theorem dX3_addContact_60 : decode cX3_addContact 60 = .ok (.iadd, 1) := by decide +kernel
theorem dX3_addContact_61 : decode cX3_addContact 61 = .ok (.iastore, 1) := by decide +kernel
theorem dX3_addContact_62 : decode cX3_addContact 62 = .ok (.return_, 1) := by decide +kernel
theorem dX3_relaysWithBranches_0 : decode cX3_relaysWithBranches 0 = .ok (.iconst 0, 1) := by decide +kernel
theorem dX3_relaysWithBranches_1 : decode cX3_relaysWithBranches 1 = .ok (.istore_n 1, 1) := by decide +kernel
theorem dX3_relaysWithBranches_2 : decode cX3_relaysWithBranches 2 = .ok (.iconst 0, 1) := by decide +kernel
theorem dX3_relaysWithBranches_3 : decode cX3_relaysWithBranches 3 = .ok (.istore_n 2, 1) := by decide +kernel
theorem dX3_relaysWithBranches_4 : decode cX3_relaysWithBranches 4 = .ok (.iload_n 2, 1) := by decide +kernel
theorem dX3_relaysWithBranches_5 : decode cX3_relaysWithBranches 5 = .ok (.bipush 10, 2) := by decide +kernel
theorem dX3_relaysWithBranches_7 : decode cX3_relaysWithBranches 7 = .ok (.if_icmp .ge 21, 3) := by decide +kernel
theorem dX3_relaysWithBranches_10 : decode cX3_relaysWithBranches 10 = .ok (.aload_n 0, 1) := by decide +kernel
theorem dX3_relaysWithBranches_11 : decode cX3_relaysWithBranches 11 = .ok (.getfield 24, 3) := by decide +kernel
theorem dX3_relaysWithBranches_14 : decode cX3_relaysWithBranches 14 = .ok (.iload_n 2, 1) := by decide +kernel
theorem dX3_relaysWithBranches_15 : decode cX3_relaysWithBranches 15 = .ok (.iaload, 1) := by decide +kernel
theorem dX3_relaysWithBranches_16 : decode cX3_relaysWithBranches 16 = .ok (.ifCond .le 6, 3) := by decide +kernel
theorem dX3_relaysWithBranches_19 : decode cX3_relaysWithBranches 19 = .ok (.iinc 1 1, 3) := by decide +kernel
theorem dX3_relaysWithBranches_22 : decode cX3_relaysWithBranches 22 = .ok (.iinc 2 1, 3) := by decide +kernel
theorem dX3_relaysWithBranches_25 : decode cX3_relaysWithBranches 25 = .ok (.goto (-21), 3) := by decide +kernel
theorem dX3_relaysWithBranches_28 : decode cX3_relaysWithBranches 28 = .ok (.iload_n 1, 1) := by decide +kernel
theorem dX3_relaysWithBranches_29 : decode cX3_relaysWithBranches 29 = .ok (.ireturn, 1) := by decide +kernel
set_option maxRecDepth 20000 in
theorem ggX3_relaysWithContactOf_X3_frontsOfCircuit : GoodIn wsX3_relaysWithContactOf wsX3_frontsOfCircuit := goodIn_r _ [5, 6, 7, 8, 9, 4, 10, 11, 12, 13, 14, 25, 26, 27, 28, 29, 30, 31, 32, 33, 34, 35, 36, 37, 38] (by decide +kernel) (by decide +kernel)
set_option maxRecDepth 20000 in
theorem gX3_relaysWithContactOf_X3_frontsOfCircuit : GoodIn wsX3_relaysWithContactOf (wsV RX3 99 RX3 yX3_frontsOfCircuit wsX3_frontsOfCircuit) := goodIn_app (goodIn_of _ (by decide +kernel)) ggX3_relaysWithContactOf_X3_frontsOfCircuit
set_option maxRecDepth 20000 in
theorem ggX3_relaysWithContactOf_X3_backsOfCircuit : GoodIn wsX3_relaysWithContactOf wsX3_backsOfCircuit := goodIn_r _ [18, 19, 7, 8, 9, 4, 10, 11, 12, 13, 14, 25, 26, 27, 28, 29, 30, 31, 32, 33, 34, 35, 36, 37, 38] (by decide +kernel) (by decide +kernel)
set_option maxRecDepth 20000 in
theorem gX3_relaysWithContactOf_X3_backsOfCircuit : GoodIn wsX3_relaysWithContactOf (wsV RX3 103 RX3 yX3_backsOfCircuit wsX3_backsOfCircuit) := goodIn_app (goodIn_of _ (by decide +kernel)) ggX3_relaysWithContactOf_X3_backsOfCircuit
set_option maxRecDepth 20000 in
theorem ggX3_relaysWithContactOf_X4_isIn : GoodIn wsX3_relaysWithContactOf wsX4_isIn := goodIn_r _ [21, 22, 23, 13, 24] (by decide +kernel) (by decide +kernel)
set_option maxRecDepth 20000 in
theorem gX3_relaysWithContactOf_X4_isIn_n86 : GoodIn wsX3_relaysWithContactOf (wsX4_isIn) := ggX3_relaysWithContactOf_X4_isIn
theorem dX3_relaysWithContactOf_0 : decode cX3_relaysWithContactOf 0 = .ok (.iconst 0, 1) := by decide +kernel
theorem dX3_relaysWithContactOf_1 : decode cX3_relaysWithContactOf 1 = .ok (.istore_n 2, 1) := by decide +kernel
theorem dX3_relaysWithContactOf_2 : decode cX3_relaysWithContactOf 2 = .ok (.iconst 0, 1) := by decide +kernel
theorem dX3_relaysWithContactOf_3 : decode cX3_relaysWithContactOf 3 = .ok (.istore_n 3, 1) := by decide +kernel
theorem dX3_relaysWithContactOf_4 : decode cX3_relaysWithContactOf 4 = .ok (.iload_n 3, 1) := by decide +kernel
theorem dX3_relaysWithContactOf_5 : decode cX3_relaysWithContactOf 5 = .ok (.bipush 10, 2) := by decide +kernel
theorem dX3_relaysWithContactOf_7 : decode cX3_relaysWithContactOf 7 = .ok (.if_icmp .ge 33, 3) := by decide +kernel
theorem dX3_relaysWithContactOf_10 : decode cX3_relaysWithContactOf 10 = .ok (.aload_n 0, 1) := by decide +kernel
theorem dX3_relaysWithContactOf_11 : decode cX3_relaysWithContactOf 11 = .ok (.iload_n 3, 1) := by decide +kernel
theorem dX3_relaysWithContactOf_12 : decode cX3_relaysWithContactOf 12 = .ok (.invokevirtual 99, 3) := by decide +kernel
theorem dX3_relaysWithContactOf_15 : decode cX3_relaysWithContactOf 15 = .ok (.aload_n 0, 1) := by decide +kernel
theorem dX3_relaysWithContactOf_16 : decode cX3_relaysWithContactOf 16 = .ok (.iload_n 3, 1) := by decide +kernel
theorem dX3_relaysWithContactOf_17 : decode cX3_relaysWithContactOf 17 = .ok (.invokevirtual 103, 3) := by decide +kernel
theorem dX3_relaysWithContactOf_20 : decode cX3_relaysWithContactOf 20 = .ok (.ior, 1) := by decide +kernel
theorem dX3_relaysWithContactOf_21 : decode cX3_relaysWithContactOf 21 = .ok (.iload_n 1, 1) := by decide +kernel
theorem dX3_relaysWithContactOf_22 : decode cX3_relaysWithContactOf 22 = .ok (.invokestatic 86, 3) := by decide +kernel
theorem dX3_relaysWithContactOf_25 : decode cX3_relaysWithContactOf 25 = .ok (.ifCond .eq 9, 3) := by decide +kernel
theorem dX3_relaysWithContactOf_28 : decode cX3_relaysWithContactOf 28 = .ok (.iload_n 2, 1) := by decide +kernel
theorem dX3_relaysWithContactOf_29 : decode cX3_relaysWithContactOf 29 = .ok (.iconst 1, 1) := by decide +kernel
theorem dX3_relaysWithContactOf_30 : decode cX3_relaysWithContactOf 30 = .ok (.iload_n 3, 1) := by decide +kernel
theorem dX3_relaysWithContactOf_31 : decode cX3_relaysWithContactOf 31 = .ok (.ishl, 1) := by decide +kernel
theorem dX3_relaysWithContactOf_32 : decode cX3_relaysWithContactOf 32 = .ok (.ior, 1) := by decide +kernel
theorem dX3_relaysWithContactOf_33 : decode cX3_relaysWithContactOf 33 = .ok (.istore_n 2, 1) := by decide +kernel
theorem dX3_relaysWithContactOf_34 : decode cX3_relaysWithContactOf 34 = .ok (.iinc 3 1, 3) := by decide +kernel
theorem dX3_relaysWithContactOf_37 : decode cX3_relaysWithContactOf 37 = .ok (.goto (-33), 3) := by decide +kernel
theorem dX3_relaysWithContactOf_40 : decode cX3_relaysWithContactOf 40 = .ok (.iload_n 2, 1) := by decide +kernel
theorem dX3_relaysWithContactOf_41 : decode cX3_relaysWithContactOf 41 = .ok (.ireturn, 1) := by decide +kernel
set_option maxRecDepth 20000 in
theorem ggX3_frontsOfCircuit_X3_contactsOfCircuit : GoodIn wsX3_frontsOfCircuit wsX3_contactsOfCircuit := goodIn_r _ [6, 7, 8, 9, 10, 11, 12, 13, 14, 15, 16, 17, 18, 19, 20, 21, 22, 23, 24] (by decide +kernel) (by decide +kernel)
set_option maxRecDepth 20000 in
theorem gX3_frontsOfCircuit_X3_contactsOfCircuit : GoodIn wsX3_frontsOfCircuit (wsV RX3 106 RX3 yX3_contactsOfCircuit wsX3_contactsOfCircuit) := goodIn_app (goodIn_of _ (by decide +kernel)) ggX3_frontsOfCircuit_X3_contactsOfCircuit
theorem dX3_frontsOfCircuit_0 : decode cX3_frontsOfCircuit 0 = .ok (.aload_n 0, 1) := by decide +kernel
theorem dX3_frontsOfCircuit_1 : decode cX3_frontsOfCircuit 1 = .ok (.aload_n 0, 1) := by decide +kernel
theorem dX3_frontsOfCircuit_2 : decode cX3_frontsOfCircuit 2 = .ok (.getfield 27, 3) := by decide +kernel
theorem dX3_frontsOfCircuit_5 : decode cX3_frontsOfCircuit 5 = .ok (.iload_n 1, 1) := by decide +kernel
theorem dX3_frontsOfCircuit_6 : decode cX3_frontsOfCircuit 6 = .ok (.invokevirtual 106, 3) := by decide +kernel
theorem dX3_frontsOfCircuit_9 : decode cX3_frontsOfCircuit 9 = .ok (.ireturn, 1) := by decide +kernel
set_option maxRecDepth 20000 in
theorem ggX3_backsOfCircuit_X3_contactsOfCircuit : GoodIn wsX3_backsOfCircuit wsX3_contactsOfCircuit := goodIn_r _ [6, 7, 8, 9, 10, 11, 12, 13, 14, 15, 16, 17, 18, 19, 20, 21, 22, 23, 24] (by decide +kernel) (by decide +kernel)
set_option maxRecDepth 20000 in
theorem gX3_backsOfCircuit_X3_contactsOfCircuit : GoodIn wsX3_backsOfCircuit (wsV RX3 106 RX3 yX3_contactsOfCircuit wsX3_contactsOfCircuit) := goodIn_app (goodIn_of _ (by decide +kernel)) ggX3_backsOfCircuit_X3_contactsOfCircuit
theorem dX3_backsOfCircuit_0 : decode cX3_backsOfCircuit 0 = .ok (.aload_n 0, 1) := by decide +kernel
theorem dX3_backsOfCircuit_1 : decode cX3_backsOfCircuit 1 = .ok (.aload_n 0, 1) := by decide +kernel
theorem dX3_backsOfCircuit_2 : decode cX3_backsOfCircuit 2 = .ok (.getfield 30, 3) := by decide +kernel
theorem dX3_backsOfCircuit_5 : decode cX3_backsOfCircuit 5 = .ok (.iload_n 1, 1) := by decide +kernel
theorem dX3_backsOfCircuit_6 : decode cX3_backsOfCircuit 6 = .ok (.invokevirtual 106, 3) := by decide +kernel
theorem dX3_backsOfCircuit_9 : decode cX3_backsOfCircuit 9 = .ok (.ireturn, 1) := by decide +kernel
set_option maxRecDepth 20000 in
theorem ggX3_contactsOfCircuit_X4_placeOf : GoodIn wsX3_contactsOfCircuit wsX4_placeOf := goodIn_r _ [4] (by decide +kernel) (by decide +kernel)
set_option maxRecDepth 20000 in
theorem gX3_contactsOfCircuit_X4_placeOf_n65 : GoodIn wsX3_contactsOfCircuit (wsX4_placeOf) := ggX3_contactsOfCircuit_X4_placeOf
theorem dX3_contactsOfCircuit_0 : decode cX3_contactsOfCircuit 0 = .ok (.iconst 0, 1) := by decide +kernel
theorem dX3_contactsOfCircuit_1 : decode cX3_contactsOfCircuit 1 = .ok (.istore_n 3, 1) := by decide +kernel
theorem dX3_contactsOfCircuit_2 : decode cX3_contactsOfCircuit 2 = .ok (.iload_n 2, 1) := by decide +kernel
theorem dX3_contactsOfCircuit_3 : decode cX3_contactsOfCircuit 3 = .ok (.aload_n 0, 1) := by decide +kernel
theorem dX3_contactsOfCircuit_4 : decode cX3_contactsOfCircuit 4 = .ok (.getfield 24, 3) := by decide +kernel
theorem dX3_contactsOfCircuit_7 : decode cX3_contactsOfCircuit 7 = .ok (.iload_n 2, 1) := by decide +kernel
theorem dX3_contactsOfCircuit_8 : decode cX3_contactsOfCircuit 8 = .ok (.iaload, 1) := by decide +kernel
theorem dX3_contactsOfCircuit_9 : decode cX3_contactsOfCircuit 9 = .ok (.invokestatic 65, 3) := by decide +kernel
theorem dX3_contactsOfCircuit_12 : decode cX3_contactsOfCircuit 12 = .ok (.istore 4, 2) := by decide +kernel
theorem dX3_contactsOfCircuit_14 : decode cX3_contactsOfCircuit 14 = .ok (.iload_n 2, 1) := by decide +kernel
theorem dX3_contactsOfCircuit_15 : decode cX3_contactsOfCircuit 15 = .ok (.iconst 0, 1) := by decide +kernel
theorem dX3_contactsOfCircuit_16 : decode cX3_contactsOfCircuit 16 = .ok (.invokestatic 65, 3) := by decide +kernel
theorem dX3_contactsOfCircuit_19 : decode cX3_contactsOfCircuit 19 = .ok (.istore 5, 2) := by decide +kernel
theorem dX3_contactsOfCircuit_21 : decode cX3_contactsOfCircuit 21 = .ok (.iload 5, 2) := by decide +kernel
theorem dX3_contactsOfCircuit_23 : decode cX3_contactsOfCircuit 23 = .ok (.iload 4, 2) := by decide +kernel
theorem dX3_contactsOfCircuit_25 : decode cX3_contactsOfCircuit 25 = .ok (.if_icmp .ge 16, 3) := by decide +kernel
theorem dX3_contactsOfCircuit_28 : decode cX3_contactsOfCircuit 28 = .ok (.iload_n 3, 1) := by decide +kernel
theorem dX3_contactsOfCircuit_29 : decode cX3_contactsOfCircuit 29 = .ok (.aload_n 1, 1) := by decide +kernel
theorem dX3_contactsOfCircuit_30 : decode cX3_contactsOfCircuit 30 = .ok (.iload 5, 2) := by decide +kernel
theorem dX3_contactsOfCircuit_32 : decode cX3_contactsOfCircuit 32 = .ok (.iaload, 1) := by decide +kernel
theorem dX3_contactsOfCircuit_33 : decode cX3_contactsOfCircuit 33 = .ok (.ior, 1) := by decide +kernel
theorem dX3_contactsOfCircuit_34 : decode cX3_contactsOfCircuit 34 = .ok (.istore_n 3, 1) := by decide +kernel
theorem dX3_contactsOfCircuit_35 : decode cX3_contactsOfCircuit 35 = .ok (.iinc 5 1, 3) := by decide +kernel
theorem dX3_contactsOfCircuit_38 : decode cX3_contactsOfCircuit 38 = .ok (.goto (-17), 3) := by decide +kernel
theorem dX3_contactsOfCircuit_41 : decode cX3_contactsOfCircuit 41 = .ok (.iload_n 3, 1) := by decide +kernel
theorem dX3_contactsOfCircuit_42 : decode cX3_contactsOfCircuit 42 = .ok (.ireturn, 1) := by decide +kernel
set_option maxRecDepth 20000 in
theorem ggX3_neverClosedBranches_X4_placeOf : GoodIn wsX3_neverClosedBranches wsX4_placeOf := goodIn_r _ [6] (by decide +kernel) (by decide +kernel)
set_option maxRecDepth 20000 in
theorem gX3_neverClosedBranches_X4_placeOf_n65 : GoodIn wsX3_neverClosedBranches (wsX4_placeOf) := ggX3_neverClosedBranches_X4_placeOf
theorem dX3_neverClosedBranches_0 : decode cX3_neverClosedBranches 0 = .ok (.iconst 0, 1) := by decide +kernel
theorem dX3_neverClosedBranches_1 : decode cX3_neverClosedBranches 1 = .ok (.istore_n 1, 1) := by decide +kernel
theorem dX3_neverClosedBranches_2 : decode cX3_neverClosedBranches 2 = .ok (.iconst 0, 1) := by decide +kernel
theorem dX3_neverClosedBranches_3 : decode cX3_neverClosedBranches 3 = .ok (.istore_n 2, 1) := by decide +kernel
theorem dX3_neverClosedBranches_4 : decode cX3_neverClosedBranches 4 = .ok (.iload_n 2, 1) := by decide +kernel
theorem dX3_neverClosedBranches_5 : decode cX3_neverClosedBranches 5 = .ok (.bipush 10, 2) := by decide +kernel
theorem dX3_neverClosedBranches_7 : decode cX3_neverClosedBranches 7 = .ok (.if_icmp .ge 60, 3) := by decide +kernel
theorem dX3_neverClosedBranches_10 : decode cX3_neverClosedBranches 10 = .ok (.iload_n 2, 1) := by decide +kernel
theorem dX3_neverClosedBranches_11 : decode cX3_neverClosedBranches 11 = .ok (.aload_n 0, 1) := by decide +kernel
theorem dX3_neverClosedBranches_12 : decode cX3_neverClosedBranches 12 = .ok (.getfield 24, 3) := by decide +kernel
theorem dX3_neverClosedBranches_15 : decode cX3_neverClosedBranches 15 = .ok (.iload_n 2, 1) := by decide +kernel
theorem dX3_neverClosedBranches_16 : decode cX3_neverClosedBranches 16 = .ok (.iaload, 1) := by decide +kernel
theorem dX3_neverClosedBranches_17 : decode cX3_neverClosedBranches 17 = .ok (.invokestatic 65, 3) := by decide +kernel
theorem dX3_neverClosedBranches_20 : decode cX3_neverClosedBranches 20 = .ok (.istore_n 3, 1) := by decide +kernel
theorem dX3_neverClosedBranches_21 : decode cX3_neverClosedBranches 21 = .ok (.iload_n 2, 1) := by decide +kernel
theorem dX3_neverClosedBranches_22 : decode cX3_neverClosedBranches 22 = .ok (.iconst 0, 1) := by decide +kernel
theorem dX3_neverClosedBranches_23 : decode cX3_neverClosedBranches 23 = .ok (.invokestatic 65, 3) := by decide +kernel
theorem dX3_neverClosedBranches_26 : decode cX3_neverClosedBranches 26 = .ok (.istore 4, 2) := by decide +kernel
theorem dX3_neverClosedBranches_28 : decode cX3_neverClosedBranches 28 = .ok (.iload 4, 2) := by decide +kernel
theorem dX3_neverClosedBranches_30 : decode cX3_neverClosedBranches 30 = .ok (.iload_n 3, 1) := by decide +kernel
theorem dX3_neverClosedBranches_31 : decode cX3_neverClosedBranches 31 = .ok (.if_icmp .ge 30, 3) := by decide +kernel
theorem dX3_neverClosedBranches_34 : decode cX3_neverClosedBranches 34 = .ok (.aload_n 0, 1) := by decide +kernel
theorem dX3_neverClosedBranches_35 : decode cX3_neverClosedBranches 35 = .ok (.getfield 27, 3) := by decide +kernel
theorem dX3_neverClosedBranches_38 : decode cX3_neverClosedBranches 38 = .ok (.iload 4, 2) := by decide +kernel
theorem dX3_neverClosedBranches_40 : decode cX3_neverClosedBranches 40 = .ok (.iaload, 1) := by decide +kernel
theorem dX3_neverClosedBranches_41 : decode cX3_neverClosedBranches 41 = .ok (.aload_n 0, 1) := by decide +kernel
theorem dX3_neverClosedBranches_42 : decode cX3_neverClosedBranches 42 = .ok (.getfield 30, 3) := by decide +kernel
theorem dX3_neverClosedBranches_45 : decode cX3_neverClosedBranches 45 = .ok (.iload 4, 2) := by decide +kernel
theorem dX3_neverClosedBranches_47 : decode cX3_neverClosedBranches 47 = .ok (.iaload, 1) := by decide +kernel
theorem dX3_neverClosedBranches_48 : decode cX3_neverClosedBranches 48 = .ok (.iand, 1) := by decide +kernel
theorem dX3_neverClosedBranches_49 : decode cX3_neverClosedBranches 49 = .ok (.ifCond .eq 6, 3) := by decide +kernel
theorem dX3_neverClosedBranches_52 : decode cX3_neverClosedBranches 52 = .ok (.iinc 1 1, 3) := by decide +kernel
theorem dX3_neverClosedBranches_55 : decode cX3_neverClosedBranches 55 = .ok (.iinc 4 1, 3) := by decide +kernel
