set_option maxRecDepth 20000 in
theorem ggX2_settleAgain_X3_kindOf : GoodIn wsX2_settleAgain wsX3_kindOf := goodIn_r _ [33, 9, 11, 12, 7, 13, 52, 53, 54] (by decide +kernel) (by decide +kernel)
set_option maxRecDepth 20000 in
theorem gX2_settleAgain_X3_kindOf : GoodIn wsX2_settleAgain (wsV RX2 128 RX3 yX3_kindOf wsX3_kindOf) := goodIn_app (goodIn_of _ (by decide +kernel)) ggX2_settleAgain_X3_kindOf
set_option maxRecDepth 20000 in
theorem ggX2_settleAgain_X3_putCharged : GoodIn wsX2_settleAgain wsX3_putCharged := goodIn_r _ [37, 9, 25, 10, 11, 12, 7, 13, 52, 53, 54] (by decide +kernel) (by decide +kernel)
set_option maxRecDepth 20000 in
theorem gX2_settleAgain_X3_putCharged : GoodIn wsX2_settleAgain (wsV RX2 131 RX3 yX3_putCharged wsX3_putCharged) := goodIn_app (goodIn_of _ (by decide +kernel)) ggX2_settleAgain_X3_putCharged
theorem dX2_settleAgain_0 : decode cX2_settleAgain 0 = .ok (.aload_n 0, 1) := by decide +kernel
theorem dX2_settleAgain_1 : decode cX2_settleAgain 1 = .ok (.getfield 39, 3) := by decide +kernel
theorem dX2_settleAgain_4 : decode cX2_settleAgain 4 = .ok (.iload_n 1, 1) := by decide +kernel
theorem dX2_settleAgain_5 : decode cX2_settleAgain 5 = .ok (.iload_n 2, 1) := by decide +kernel
theorem dX2_settleAgain_6 : decode cX2_settleAgain 6 = .ok (.invokevirtual 117, 3) := by decide +kernel
theorem dX2_settleAgain_9 : decode cX2_settleAgain 9 = .ok (.istore_n 3, 1) := by decide +kernel
theorem dX2_settleAgain_10 : decode cX2_settleAgain 10 = .ok (.iload_n 3, 1) := by decide +kernel
theorem dX2_settleAgain_11 : decode cX2_settleAgain 11 = .ok (.iconst (-1), 1) := by decide +kernel
theorem dX2_settleAgain_12 : decode cX2_settleAgain 12 = .ok (.if_icmp .eq 43, 3) := by decide +kernel
theorem dX2_settleAgain_15 : decode cX2_settleAgain 15 = .ok (.aload_n 0, 1) := by decide +kernel
theorem dX2_settleAgain_16 : decode cX2_settleAgain 16 = .ok (.iload_n 1, 1) := by decide +kernel
theorem dX2_settleAgain_17 : decode cX2_settleAgain 17 = .ok (.iload_n 2, 1) := by decide +kernel
theorem dX2_settleAgain_18 : decode cX2_settleAgain 18 = .ok (.invokevirtual 121, 3) := by decide +kernel
theorem dX2_settleAgain_21 : decode cX2_settleAgain 21 = .ok (.ifCond .eq 34, 3) := by decide +kernel
theorem dX2_settleAgain_24 : decode cX2_settleAgain 24 = .ok (.aload_n 0, 1) := by decide +kernel
theorem dX2_settleAgain_25 : decode cX2_settleAgain 25 = .ok (.getfield 18, 3) := by decide +kernel
theorem dX2_settleAgain_28 : decode cX2_settleAgain 28 = .ok (.iload_n 3, 1) := by decide +kernel
theorem dX2_settleAgain_29 : decode cX2_settleAgain 29 = .ok (.dup2, 1) := by decide +kernel
theorem dX2_settleAgain_30 : decode cX2_settleAgain 30 = .ok (.iaload, 1) := by decide +kernel
theorem dX2_settleAgain_31 : decode cX2_settleAgain 31 = .ok (.aload_n 0, 1) := by decide +kernel
theorem dX2_settleAgain_32 : decode cX2_settleAgain 32 = .ok (.getfield 39, 3) := by decide +kernel
theorem dX2_settleAgain_35 : decode cX2_settleAgain 35 = .ok (.iload_n 1, 1) := by decide +kernel
theorem dX2_settleAgain_36 : decode cX2_settleAgain 36 = .ok (.iload_n 2, 1) := by decide +kernel
theorem dX2_settleAgain_37 : decode cX2_settleAgain 37 = .ok (.invokevirtual 125, 3) := by decide +kernel
theorem dX2_settleAgain_40 : decode cX2_settleAgain 40 = .ok (.iadd, 1) := by decide +kernel
theorem dX2_settleAgain_41 : decode cX2_settleAgain 41 = .ok (.iastore, 1) := by decide +kernel
theorem dX2_settleAgain_42 : decode cX2_settleAgain 42 = .ok (.aload_n 0, 1) := by decide +kernel
theorem dX2_settleAgain_43 : decode cX2_settleAgain 43 = .ok (.getfield 39, 3) := by decide +kernel
theorem dX2_settleAgain_46 : decode cX2_settleAgain 46 = .ok (.iload_n 1, 1) := by decide +kernel
theorem dX2_settleAgain_47 : decode cX2_settleAgain 47 = .ok (.iload_n 2, 1) := by decide +kernel
theorem dX2_settleAgain_48 : decode cX2_settleAgain 48 = .ok (.iconst 3, 1) := by decide +kernel
theorem dX2_settleAgain_49 : decode cX2_settleAgain 49 = .ok (.invokevirtual 100, 3) := by decide +kernel
theorem dX2_settleAgain_52 : decode cX2_settleAgain 52 = .ok (.goto 52, 3) := by decide +kernel
theorem dX2_settleAgain_55 : decode cX2_settleAgain 55 = .ok (.aload_n 0, 1) := by decide +kernel
theorem dX2_settleAgain_56 : decode cX2_settleAgain 56 = .ok (.getfield 39, 3) := by decide +kernel
theorem dX2_settleAgain_59 : decode cX2_settleAgain 59 = .ok (.iload_n 1, 1) := by decide +kernel
theorem dX2_settleAgain_60 : decode cX2_settleAgain 60 = .ok (.iload_n 2, 1) := by decide +kernel
theorem dX2_settleAgain_61 : decode cX2_settleAgain 61 = .ok (.invokevirtual 128, 3) := by decide +kernel
theorem dX2_settleAgain_64 : decode cX2_settleAgain 64 = .ok (.iconst 3, 1) := by decide +kernel
theorem dX2_settleAgain_65 : decode cX2_settleAgain 65 = .ok (.if_icmp .ne 39, 3) := by decide +kernel
theorem dX2_settleAgain_68 : decode cX2_settleAgain 68 = .ok (.aload_n 0, 1) := by decide +kernel
theorem dX2_settleAgain_69 : decode cX2_settleAgain 69 = .ok (.iload_n 1, 1) := by decide +kernel
theorem dX2_settleAgain_70 : decode cX2_settleAgain 70 = .ok (.iload_n 2, 1) := by decide +kernel
theorem dX2_settleAgain_71 : decode cX2_settleAgain 71 = .ok (.invokevirtual 121, 3) := by decide +kernel
theorem dX2_settleAgain_74 : decode cX2_settleAgain 74 = .ok (.ifCond .ne 30, 3) := by decide +kernel
theorem dX2_settleAgain_77 : decode cX2_settleAgain 77 = .ok (.aload_n 0, 1) := by decide +kernel
theorem dX2_settleAgain_78 : decode cX2_settleAgain 78 = .ok (.getfield 18, 3) := by decide +kernel
theorem dX2_settleAgain_81 : decode cX2_settleAgain 81 = .ok (.iload_n 1, 1) := by decide +kernel
theorem dX2_settleAgain_82 : decode cX2_settleAgain 82 = .ok (.dup2, 1) := by decide +kernel
theorem dX2_settleAgain_83 : decode cX2_settleAgain 83 = .ok (.iaload, 1) := by decide +kernel
theorem dX2_settleAgain_84 : decode cX2_settleAgain 84 = .ok (.aload_n 0, 1) := by decide +kernel
theorem dX2_settleAgain_85 : decode cX2_settleAgain 85 = .ok (.getfield 43, 3) := by decide +kernel
theorem dX2_settleAgain_88 : decode cX2_settleAgain 88 = .ok (.isub, 1) := by decide +kernel
theorem dX2_settleAgain_89 : decode cX2_settleAgain 89 = .ok (.iastore, 1) := by decide +kernel
theorem dX2_settleAgain_90 : decode cX2_settleAgain 90 = .ok (.aload_n 0, 1) := by decide +kernel
theorem dX2_settleAgain_91 : decode cX2_settleAgain 91 = .ok (.getfield 39, 3) := by decide +kernel
theorem dX2_settleAgain_94 : decode cX2_settleAgain 94 = .ok (.iload_n 1, 1) := by decide +kernel
theorem dX2_settleAgain_95 : decode cX2_settleAgain 95 = .ok (.iload_n 2, 1) := by decide +kernel
theorem dX2_settleAgain_96 : decode cX2_settleAgain 96 = .ok (.aload_n 0, 1) := by decide +kernel
theorem dX2_settleAgain_97 : decode cX2_settleAgain 97 = .ok (.getfield 43, 3) := by decide +kernel
theorem dX2_settleAgain_100 : decode cX2_settleAgain 100 = .ok (.iload_n 1, 1) := by decide +kernel
theorem dX2_settleAgain_101 : decode cX2_settleAgain 101 = .ok (.invokevirtual 131, 3) := by decide +kernel
theorem dX2_settleAgain_104 : decode cX2_settleAgain 104 = .ok (.return_, 1) := by decide +kernel
set_option maxRecDepth 20000 in
theorem ggX2_writeDebtOff_X2_debtOf : GoodIn wsX2_writeDebtOff wsX2_debtOf := goodIn_r _ [9, 1, 2, 3, 10, 11, 12, 13, 14, 15, 16, 17, 18, 19, 20, 21, 22, 23] (by decide +kernel) (by decide +kernel)
set_option maxRecDepth 20000 in
theorem gX2_writeDebtOff_X2_debtOf : GoodIn wsX2_writeDebtOff (wsV RX2 92 RX2 yX2_debtOf wsX2_debtOf) := goodIn_app (goodIn_of _ (by decide +kernel)) ggX2_writeDebtOff_X2_debtOf
theorem dX2_writeDebtOff_0 : decode cX2_writeDebtOff 0 = .ok (.aload_n 0, 1) := by decide +kernel
theorem dX2_writeDebtOff_1 : decode cX2_writeDebtOff 1 = .ok (.iload_n 1, 1) := by decide +kernel
theorem dX2_writeDebtOff_2 : decode cX2_writeDebtOff 2 = .ok (.invokevirtual 92, 3) := by decide +kernel
theorem dX2_writeDebtOff_5 : decode cX2_writeDebtOff 5 = .ok (.istore_n 2, 1) := by decide +kernel
theorem dX2_writeDebtOff_6 : decode cX2_writeDebtOff 6 = .ok (.iconst 0, 1) := by decide +kernel
theorem dX2_writeDebtOff_7 : decode cX2_writeDebtOff 7 = .ok (.istore_n 3, 1) := by decide +kernel
theorem dX2_writeDebtOff_8 : decode cX2_writeDebtOff 8 = .ok (.iload_n 3, 1) := by decide +kernel
theorem dX2_writeDebtOff_9 : decode cX2_writeDebtOff 9 = .ok (.aload_n 0, 1) := by decide +kernel
theorem dX2_writeDebtOff_10 : decode cX2_writeDebtOff 10 = .ok (.getfield 53, 3) := by decide +kernel
theorem dX2_writeDebtOff_13 : decode cX2_writeDebtOff 13 = .ok (.if_icmp .ge 35, 3) := by decide +kernel
theorem dX2_writeDebtOff_16 : decode cX2_writeDebtOff 16 = .ok (.aload_n 0, 1) := by decide +kernel
theorem dX2_writeDebtOff_17 : decode cX2_writeDebtOff 17 = .ok (.getfield 9, 3) := by decide +kernel
theorem dX2_writeDebtOff_20 : decode cX2_writeDebtOff 20 = .ok (.iload_n 3, 1) := by decide +kernel
theorem dX2_writeDebtOff_21 : decode cX2_writeDebtOff 21 = .ok (.iaload, 1) := by decide +kernel
theorem dX2_writeDebtOff_22 : decode cX2_writeDebtOff 22 = .ok (.iload_n 1, 1) := by decide +kernel
theorem dX2_writeDebtOff_23 : decode cX2_writeDebtOff 23 = .ok (.if_icmp .ne 19, 3) := by decide +kernel
theorem dX2_writeDebtOff_26 : decode cX2_writeDebtOff 26 = .ok (.aload_n 0, 1) := by decide +kernel
theorem dX2_writeDebtOff_27 : decode cX2_writeDebtOff 27 = .ok (.getfield 18, 3) := by decide +kernel
theorem dX2_writeDebtOff_30 : decode cX2_writeDebtOff 30 = .ok (.iload_n 3, 1) := by decide +kernel
theorem dX2_writeDebtOff_31 : decode cX2_writeDebtOff 31 = .ok (.iaload, 1) := by decide +kernel
theorem dX2_writeDebtOff_32 : decode cX2_writeDebtOff 32 = .ok (.ifCond .ge 10, 3) := by decide +kernel
theorem dX2_writeDebtOff_35 : decode cX2_writeDebtOff 35 = .ok (.aload_n 0, 1) := by decide +kernel
theorem dX2_writeDebtOff_36 : decode cX2_writeDebtOff 36 = .ok (.getfield 18, 3) := by decide +kernel
theorem dX2_writeDebtOff_39 : decode cX2_writeDebtOff 39 = .ok (.iload_n 3, 1) := by decide +kernel
theorem dX2_writeDebtOff_40 : decode cX2_writeDebtOff 40 = .ok (.iconst 0, 1) := by decide +kernel
theorem dX2_writeDebtOff_41 : decode cX2_writeDebtOff 41 = .ok (.iastore, 1) := by decide +kernel
theorem dX2_writeDebtOff_42 : decode cX2_writeDebtOff 42 = .ok (.iinc 3 1, 3) := by decide +kernel
theorem dX2_writeDebtOff_45 : decode cX2_writeDebtOff 45 = .ok (.goto (-37), 3) := by decide +kernel
theorem dX2_writeDebtOff_48 : decode cX2_writeDebtOff 48 = .ok (.aload_n 0, 1) := by decide +kernel
theorem dX2_writeDebtOff_49 : decode cX2_writeDebtOff 49 = .ok (.getfield 33, 3) := by decide +kernel
theorem dX2_writeDebtOff_52 : decode cX2_writeDebtOff 52 = .ok (.iload_n 1, 1) := by decide +kernel
theorem dX2_writeDebtOff_53 : decode cX2_writeDebtOff 53 = .ok (.dup2, 1) := by decide +kernel
theorem dX2_writeDebtOff_54 : decode cX2_writeDebtOff 54 = .ok (.iaload, 1) := by decide +kernel
theorem dX2_writeDebtOff_55 : decode cX2_writeDebtOff 55 = .ok (.iload_n 2, 1) := by decide +kernel
theorem dX2_writeDebtOff_56 : decode cX2_writeDebtOff 56 = .ok (.iadd, 1) := by decide +kernel
theorem dX2_writeDebtOff_57 : decode cX2_writeDebtOff 57 = .ok (.iastore, 1) := by decide +kernel
theorem dX2_writeDebtOff_58 : decode cX2_writeDebtOff 58 = .ok (.iload_n 2, 1) := by decide +kernel
theorem dX2_writeDebtOff_59 : decode cX2_writeDebtOff 59 = .ok (.ireturn, 1) := by decide +kernel
set_option maxRecDepth 20000 in
theorem ggX2_passDays_X3_kindOf : GoodIn wsX2_passDays wsX3_kindOf := goodIn_r _ [8, 9, 10, 11, 7, 12, 71, 72, 73] (by decide +kernel) (by decide +kernel)
set_option maxRecDepth 20000 in
theorem gX2_passDays_X3_kindOf : GoodIn wsX2_passDays (wsV RX2 128 RX3 yX3_kindOf wsX3_kindOf) := goodIn_app (goodIn_of _ (by decide +kernel)) ggX2_passDays_X3_kindOf
set_option maxRecDepth 20000 in
theorem ggX2_passDays_X2_serve : GoodIn wsX2_passDays wsX2_serve := goodIn_r _ [17, 1, 3, 18, 19, 20, 21, 22, 16, 23, 24, 25, 26, 27, 28, 29, 30, 31, 32, 33, 34, 35, 36, 37, 38, 39, 40, 41, 42, 2, 43, 44, 45, 46, 47, 48, 49, 7, 50, 9, 10, 11, 12, 51, 52, 53, 54, 55, 56, 57, 58, 59, 60, 61, 62, 63, 64, 65, 66, 67, 68, 69, 70, 71, 72, 73] (by decide +kernel) (by decide +kernel)
set_option maxRecDepth 20000 in
theorem gX2_passDays_X2_serve : GoodIn wsX2_passDays (wsV RX2 135 RX2 yX2_serve wsX2_serve) := goodIn_app (goodIn_of _ (by decide +kernel)) ggX2_passDays_X2_serve
theorem dX2_passDays_0 : decode cX2_passDays 0 = .ok (.iconst 0, 1) := by decide +kernel
theorem dX2_passDays_1 : decode cX2_passDays 1 = .ok (.istore_n 2, 1) := by decide +kernel
theorem dX2_passDays_2 : decode cX2_passDays 2 = .ok (.iconst 0, 1) := by decide +kernel
theorem dX2_passDays_3 : decode cX2_passDays 3 = .ok (.istore_n 3, 1) := by decide +kernel
theorem dX2_passDays_4 : decode cX2_passDays 4 = .ok (.iload_n 3, 1) := by decide +kernel
theorem dX2_passDays_5 : decode cX2_passDays 5 = .ok (.iload_n 1, 1) := by decide +kernel
theorem dX2_passDays_6 : decode cX2_passDays 6 = .ok (.if_icmp .ge 75, 3) := by decide +kernel
theorem dX2_passDays_9 : decode cX2_passDays 9 = .ok (.aload_n 0, 1) := by decide +kernel
theorem dX2_passDays_10 : decode cX2_passDays 10 = .ok (.getfield 50, 3) := by decide +kernel
theorem dX2_passDays_13 : decode cX2_passDays 13 = .ok (.bipush 40, 2) := by decide +kernel
theorem dX2_passDays_15 : decode cX2_passDays 15 = .ok (.if_icmp .ge 66, 3) := by decide +kernel
theorem dX2_passDays_18 : decode cX2_passDays 18 = .ok (.iconst 0, 1) := by decide +kernel
theorem dX2_passDays_19 : decode cX2_passDays 19 = .ok (.istore 4, 2) := by decide +kernel
theorem dX2_passDays_21 : decode cX2_passDays 21 = .ok (.iload 4, 2) := by decide +kernel
theorem dX2_passDays_23 : decode cX2_passDays 23 = .ok (.aload_n 0, 1) := by decide +kernel
theorem dX2_passDays_24 : decode cX2_passDays 24 = .ok (.getfield 53, 3) := by decide +kernel
theorem dX2_passDays_27 : decode cX2_passDays 27 = .ok (.if_icmp .ge 38, 3) := by decide +kernel
theorem dX2_passDays_30 : decode cX2_passDays 30 = .ok (.aload_n 0, 1) := by decide +kernel
theorem dX2_passDays_31 : decode cX2_passDays 31 = .ok (.getfield 39, 3) := by decide +kernel
theorem dX2_passDays_34 : decode cX2_passDays 34 = .ok (.iload 4, 2) := by decide +kernel
theorem dX2_passDays_36 : decode cX2_passDays 36 = .ok (.aload_n 0, 1) := by decide +kernel
theorem dX2_passDays_37 : decode cX2_passDays 37 = .ok (.getfield 50, 3) := by decide +kernel
theorem dX2_passDays_40 : decode cX2_passDays 40 = .ok (.invokevirtual 128, 3) := by decide +kernel
theorem dX2_passDays_43 : decode cX2_passDays 43 = .ok (.iconst 1, 1) := by decide +kernel
theorem dX2_passDays_44 : decode cX2_passDays 44 = .ok (.if_icmp .ne 15, 3) := by decide +kernel
theorem dX2_passDays_47 : decode cX2_passDays 47 = .ok (.aload_n 0, 1) := by decide +kernel
theorem dX2_passDays_48 : decode cX2_passDays 48 = .ok (.iload 4, 2) := by decide +kernel
theorem dX2_passDays_50 : decode cX2_passDays 50 = .ok (.invokevirtual 135, 3) := by decide +kernel
theorem dX2_passDays_53 : decode cX2_passDays 53 = .ok (.ifCond .eq 6, 3) := by decide +kernel
theorem dX2_passDays_56 : decode cX2_passDays 56 = .ok (.iinc 2 1, 3) := by decide +kernel
theorem dX2_passDays_59 : decode cX2_passDays 59 = .ok (.iinc 4 1, 3) := by decide +kernel
theorem dX2_passDays_62 : decode cX2_passDays 62 = .ok (.goto (-41), 3) := by decide +kernel
theorem dX2_passDays_65 : decode cX2_passDays 65 = .ok (.aload_n 0, 1) := by decide +kernel
theorem dX2_passDays_66 : decode cX2_passDays 66 = .ok (.dup, 1) := by decide +kernel
theorem dX2_passDays_67 : decode cX2_passDays 67 = .ok (.getfield 50, 3) := by decide +kernel
theorem dX2_passDays_70 : decode cX2_passDays 70 = .ok (.iconst 1, 1) := by decide +kernel
theorem dX2_passDays_71 : decode cX2_passDays 71 = .ok (.iadd, 1) := by decide +kernel
theorem dX2_passDays_72 : decode cX2_passDays 72 = .ok (.putfield 50, 3) := by decide +kernel
theorem dX2_passDays_75 : decode cX2_passDays 75 = .ok (.iinc 3 1, 3) := by decide +kernel
theorem dX2_passDays_78 : decode cX2_passDays 78 = .ok (.goto (-74), 3) := by decide +kernel
theorem dX2_passDays_81 : decode cX2_passDays 81 = .ok (.iload_n 2, 1) := by decide +kernel
theorem dX2_passDays_82 : decode cX2_passDays 82 = .ok (.ireturn, 1) := by decide +kernel
theorem dX2_changeSetting_0 : decode cX2_changeSetting 0 = .ok (.iload_n 1, 1) := by decide +kernel
theorem dX2_changeSetting_1 : decode cX2_changeSetting 1 = .ok (.ifCond .ne 10, 3) := by decide +kernel
theorem dX2_changeSetting_4 : decode cX2_changeSetting 4 = .ok (.aload_n 0, 1) := by decide +kernel
theorem dX2_changeSetting_5 : decode cX2_changeSetting 5 = .ok (.getfield 43, 3) := by decide +kernel
theorem dX2_changeSetting_8 : decode cX2_changeSetting 8 = .ok (.goto 7, 3) := by decide +kernel
theorem dX2_changeSetting_11 : decode cX2_changeSetting 11 = .ok (.aload_n 0, 1) := by decide +kernel
theorem dX2_changeSetting_12 : decode cX2_changeSetting 12 = .ok (.getfield 47, 3) := by decide +kernel
theorem dX2_changeSetting_15 : decode cX2_changeSetting 15 = .ok (.istore_n 3, 1) := by decide +kernel
theorem dX2_changeSetting_16 : decode cX2_changeSetting 16 = .ok (.iload_n 1, 1) := by decide +kernel
theorem dX2_changeSetting_17 : decode cX2_changeSetting 17 = .ok (.ifCond .ne 11, 3) := by decide +kernel
theorem dX2_changeSetting_20 : decode cX2_changeSetting 20 = .ok (.aload_n 0, 1) := by decide +kernel
theorem dX2_changeSetting_21 : decode cX2_changeSetting 21 = .ok (.iload_n 2, 1) := by decide +kernel
theorem dX2_changeSetting_22 : decode cX2_changeSetting 22 = .ok (.putfield 43, 3) := by decide +kernel
theorem dX2_changeSetting_25 : decode cX2_changeSetting 25 = .ok (.goto 8, 3) := by decide +kernel
theorem dX2_changeSetting_28 : decode cX2_changeSetting 28 = .ok (.aload_n 0, 1) := by decide +kernel
theorem dX2_changeSetting_29 : decode cX2_changeSetting 29 = .ok (.iload_n 2, 1) := by decide +kernel
theorem dX2_changeSetting_30 : decode cX2_changeSetting 30 = .ok (.putfield 47, 3) := by decide +kernel
theorem dX2_changeSetting_33 : decode cX2_changeSetting 33 = .ok (.iload_n 3, 1) := by decide +kernel
theorem dX2_changeSetting_34 : decode cX2_changeSetting 34 = .ok (.ireturn, 1) := by decide +kernel
set_option maxRecDepth 20000 in
theorem ggX2_serve_X2_payerOn : GoodIn wsX2_serve wsX2_payerOn := goodIn_r _ [9, 3, 4, 10, 11, 12, 13, 14, 15, 8, 16, 17, 18, 19, 20, 21, 22, 23, 24, 25, 26, 27, 28, 29, 49, 50, 51, 52, 53, 54, 55, 56, 57, 58, 59, 60, 61, 62] (by decide +kernel) (by decide +kernel)
set_option maxRecDepth 20000 in
theorem gX2_serve_X2_payerOn : GoodIn wsX2_serve (wsV RX2 138 RX2 yX2_payerOn wsX2_payerOn) := goodIn_app (goodIn_of _ (by decide +kernel)) ggX2_serve_X2_payerOn
set_option maxRecDepth 20000 in
theorem ggX2_serve_X2_kindWithoutPayer : GoodIn wsX2_serve wsX2_kindWithoutPayer := goodIn_r _ [33, 13, 14, 15, 8, 16, 17, 18, 19, 20, 21, 22, 23, 24, 49, 50, 51, 52, 53, 54, 55, 56, 57, 58, 59, 60, 61, 62] (by decide +kernel) (by decide +kernel)
set_option maxRecDepth 20000 in
theorem gX2_serve_X2_kindWithoutPayer : GoodIn wsX2_serve (wsV RX2 141 RX2 yX2_kindWithoutPayer wsX2_kindWithoutPayer) := goodIn_app (goodIn_of _ (by decide +kernel)) ggX2_serve_X2_kindWithoutPayer
set_option maxRecDepth 20000 in
theorem ggX2_serve_X3_put : GoodIn wsX2_serve wsX3_put := goodIn_r _ [38, 39, 40, 41, 37, 42, 63, 64, 65] (by decide +kernel) (by decide +kernel)
set_option maxRecDepth 20000 in
theorem gX2_serve_X3_put : GoodIn wsX2_serve (wsV RX2 100 RX3 yX3_put wsX3_put) := goodIn_app (goodIn_of _ (by decide +kernel)) ggX2_serve_X3_put
set_option maxRecDepth 20000 in
theorem ggX2_serve_X3_putCharged : GoodIn wsX2_serve wsX3_putCharged := goodIn_r _ [46, 39, 47, 48, 40, 41, 37, 42, 63, 64, 65] (by decide +kernel) (by decide +kernel)
set_option maxRecDepth 20000 in
theorem gX2_serve_X3_putCharged : GoodIn wsX2_serve (wsV RX2 131 RX3 yX3_putCharged wsX3_putCharged) := goodIn_app (goodIn_of _ (by decide +kernel)) ggX2_serve_X3_putCharged
theorem dX2_serve_0 : decode cX2_serve 0 = .ok (.aload_n 0, 1) := by decide +kernel
theorem dX2_serve_1 : decode cX2_serve 1 = .ok (.iload_n 1, 1) := by decide +kernel
theorem dX2_serve_2 : decode cX2_serve 2 = .ok (.aload_n 0, 1) := by decide +kernel
theorem dX2_serve_3 : decode cX2_serve 3 = .ok (.getfield 50, 3) := by decide +kernel
theorem dX2_serve_6 : decode cX2_serve 6 = .ok (.invokevirtual 138, 3) := by decide +kernel
theorem dX2_serve_9 : decode cX2_serve 9 = .ok (.istore_n 2, 1) := by decide +kernel
theorem dX2_serve_10 : decode cX2_serve 10 = .ok (.iload_n 2, 1) := by decide +kernel
theorem dX2_serve_11 : decode cX2_serve 11 = .ok (.iconst (-1), 1) := by decide +kernel
theorem dX2_serve_12 : decode cX2_serve 12 = .ok (.if_icmp .ne 37, 3) := by decide +kernel
theorem dX2_serve_15 : decode cX2_serve 15 = .ok (.aload_n 0, 1) := by decide +kernel
theorem dX2_serve_16 : decode cX2_serve 16 = .ok (.iload_n 1, 1) := by decide +kernel
theorem dX2_serve_17 : decode cX2_serve 17 = .ok (.aload_n 0, 1) := by decide +kernel
theorem dX2_serve_18 : decode cX2_serve 18 = .ok (.getfield 50, 3) := by decide +kernel
theorem dX2_serve_21 : decode cX2_serve 21 = .ok (.invokevirtual 141, 3) := by decide +kernel
theorem dX2_serve_24 : decode cX2_serve 24 = .ok (.istore_n 3, 1) := by decide +kernel
theorem dX2_serve_25 : decode cX2_serve 25 = .ok (.aload_n 0, 1) := by decide +kernel
theorem dX2_serve_26 : decode cX2_serve 26 = .ok (.getfield 39, 3) := by decide +kernel
theorem dX2_serve_29 : decode cX2_serve 29 = .ok (.iload_n 1, 1) := by decide +kernel
theorem dX2_serve_30 : decode cX2_serve 30 = .ok (.aload_n 0, 1) := by decide +kernel
theorem dX2_serve_31 : decode cX2_serve 31 = .ok (.getfield 50, 3) := by decide +kernel
theorem dX2_serve_34 : decode cX2_serve 34 = .ok (.iload_n 3, 1) := by decide +kernel
theorem dX2_serve_35 : decode cX2_serve 35 = .ok (.invokevirtual 100, 3) := by decide +kernel
theorem dX2_serve_38 : decode cX2_serve 38 = .ok (.iload_n 3, 1) := by decide +kernel
theorem dX2_serve_39 : decode cX2_serve 39 = .ok (.iconst 3, 1) := by decide +kernel
theorem dX2_serve_40 : decode cX2_serve 40 = .ok (.if_icmp .ne 7, 3) := by decide +kernel
theorem dX2_serve_43 : decode cX2_serve 43 = .ok (.iconst 1, 1) := by decide +kernel
theorem dX2_serve_44 : decode cX2_serve 44 = .ok (.goto 4, 3) := by decide +kernel
theorem dX2_serve_47 : decode cX2_serve 47 = .ok (.iconst 0, 1) := by decide +kernel
theorem dX2_serve_48 : decode cX2_serve 48 = .ok (.ireturn, 1) := by decide +kernel
theorem dX2_serve_49 : decode cX2_serve 49 = .ok (.aload_n 0, 1) := by decide +kernel
theorem dX2_serve_50 : decode cX2_serve 50 = .ok (.getfield 18, 3) := by decide +kernel
theorem dX2_serve_53 : decode cX2_serve 53 = .ok (.iload_n 2, 1) := by decide +kernel
theorem dX2_serve_54 : decode cX2_serve 54 = .ok (.dup2, 1) := by decide +kernel
theorem dX2_serve_55 : decode cX2_serve 55 = .ok (.iaload, 1) := by decide +kernel
theorem dX2_serve_56 : decode cX2_serve 56 = .ok (.aload_n 0, 1) := by decide +kernel
theorem dX2_serve_57 : decode cX2_serve 57 = .ok (.getfield 43, 3) := by decide +kernel
theorem dX2_serve_60 : decode cX2_serve 60 = .ok (.isub, 1) := by decide +kernel
theorem dX2_serve_61 : decode cX2_serve 61 = .ok (.iastore, 1) := by decide +kernel
theorem dX2_serve_62 : decode cX2_serve 62 = .ok (.aload_n 0, 1) := by decide +kernel
theorem dX2_serve_63 : decode cX2_serve 63 = .ok (.getfield 39, 3) := by decide +kernel
theorem dX2_serve_66 : decode cX2_serve 66 = .ok (.iload_n 1, 1) := by decide +kernel
theorem dX2_serve_67 : decode cX2_serve 67 = .ok (.aload_n 0, 1) := by decide +kernel
theorem dX2_serve_68 : decode cX2_serve 68 = .ok (.getfield 50, 3) := by decide +kernel
theorem dX2_serve_71 : decode cX2_serve 71 = .ok (.aload_n 0, 1) := by decide +kernel
theorem dX2_serve_72 : decode cX2_serve 72 = .ok (.getfield 43, 3) := by decide +kernel
theorem dX2_serve_75 : decode cX2_serve 75 = .ok (.iload_n 2, 1) := by decide +kernel
theorem dX2_serve_76 : decode cX2_serve 76 = .ok (.invokevirtual 131, 3) := by decide +kernel
theorem dX2_serve_79 : decode cX2_serve 79 = .ok (.iconst 1, 1) := by decide +kernel
theorem dX2_serve_80 : decode cX2_serve 80 = .ok (.ireturn, 1) := by decide +kernel
theorem dX2_isSuited_0 : decode cX2_isSuited 0 = .ok (.aload_n 0, 1) := by decide +kernel
theorem dX2_isSuited_1 : decode cX2_isSuited 1 = .ok (.getfield 27, 3) := by decide +kernel
theorem dX2_isSuited_4 : decode cX2_isSuited 4 = .ok (.iload_n 2, 1) := by decide +kernel
theorem dX2_isSuited_5 : decode cX2_isSuited 5 = .ok (.iaload, 1) := by decide +kernel
theorem dX2_isSuited_6 : decode cX2_isSuited 6 = .ok (.aload_n 0, 1) := by decide +kernel
theorem dX2_isSuited_7 : decode cX2_isSuited 7 = .ok (.getfield 15, 3) := by decide +kernel
theorem dX2_isSuited_10 : decode cX2_isSuited 10 = .ok (.iload_n 1, 1) := by decide +kernel
theorem dX2_isSuited_11 : decode cX2_isSuited 11 = .ok (.iaload, 1) := by decide +kernel
theorem dX2_isSuited_12 : decode cX2_isSuited 12 = .ok (.iand, 1) := by decide +kernel
theorem dX2_isSuited_13 : decode cX2_isSuited 13 = .ok (.ifCond .ne 7, 3) := by decide +kernel
theorem dX2_isSuited_16 : decode cX2_isSuited 16 = .ok (.iconst 1, 1) := by decide +kernel
theorem dX2_isSuited_17 : decode cX2_isSuited 17 = .ok (.goto 4, 3) := by decide +kernel
theorem dX2_isSuited_20 : decode cX2_isSuited 20 = .ok (.iconst 0, 1) := by decide +kernel
theorem dX2_isSuited_21 : decode cX2_isSuited 21 = .ok (.ireturn, 1) := by decide +kernel
set_option maxRecDepth 20000 in
theorem ggX2_payerOn_X2_isSuited : GoodIn wsX2_payerOn wsX2_isSuited := goodIn_r _ [10, 11, 12, 24, 25, 26, 27, 28, 29, 30, 31, 32, 33, 34, 35, 36, 37] (by decide +kernel) (by decide +kernel)
set_option maxRecDepth 20000 in
theorem gX2_payerOn_X2_isSuited : GoodIn wsX2_payerOn (wsV RX2 144 RX2 yX2_isSuited wsX2_isSuited) := goodIn_app (goodIn_of _ (by decide +kernel)) ggX2_payerOn_X2_isSuited
set_option maxRecDepth 20000 in
theorem ggX2_payerOn_X2_isEntitled : GoodIn wsX2_payerOn wsX2_isEntitled := goodIn_r _ [16, 17, 18, 24, 25, 26, 27, 28, 29, 30, 31, 32, 33, 34, 35, 36, 37] (by decide +kernel) (by decide +kernel)
set_option maxRecDepth 20000 in
theorem gX2_payerOn_X2_isEntitled : GoodIn wsX2_payerOn (wsV RX2 121 RX2 yX2_isEntitled wsX2_isEntitled) := goodIn_app (goodIn_of _ (by decide +kernel)) ggX2_payerOn_X2_isEntitled
set_option maxRecDepth 20000 in
theorem ggX2_payerOn_X2_richestSibling : GoodIn wsX2_payerOn wsX2_richestSibling := goodIn_r _ [22, 2, 23, 5, 1, 24, 25, 26, 27, 28, 29, 30, 31, 32, 33, 34, 35, 36, 37] (by decide +kernel) (by decide +kernel)
set_option maxRecDepth 20000 in
theorem gX2_payerOn_X2_richestSibling : GoodIn wsX2_payerOn (wsV RX2 147 RX2 yX2_richestSibling wsX2_richestSibling) := goodIn_app (goodIn_of _ (by decide +kernel)) ggX2_payerOn_X2_richestSibling
theorem dX2_payerOn_0 : decode cX2_payerOn 0 = .ok (.aload_n 0, 1) := by decide +kernel
theorem dX2_payerOn_1 : decode cX2_payerOn 1 = .ok (.iload_n 1, 1) := by decide +kernel
theorem dX2_payerOn_2 : decode cX2_payerOn 2 = .ok (.iload_n 2, 1) := by decide +kernel
theorem dX2_payerOn_3 : decode cX2_payerOn 3 = .ok (.invokevirtual 144, 3) := by decide +kernel
theorem dX2_payerOn_6 : decode cX2_payerOn 6 = .ok (.ifCond .eq 12, 3) := by decide +kernel
theorem dX2_payerOn_9 : decode cX2_payerOn 9 = .ok (.aload_n 0, 1) := by decide +kernel
theorem dX2_payerOn_10 : decode cX2_payerOn 10 = .ok (.iload_n 1, 1) := by decide +kernel
theorem dX2_payerOn_11 : decode cX2_payerOn 11 = .ok (.iload_n 2, 1) := by decide +kernel
theorem dX2_payerOn_12 : decode cX2_payerOn 12 = .ok (.invokevirtual 121, 3) := by decide +kernel
theorem dX2_payerOn_15 : decode cX2_payerOn 15 = .ok (.ifCond .eq 5, 3) := by decide +kernel
theorem dX2_payerOn_18 : decode cX2_payerOn 18 = .ok (.iconst (-1), 1) := by decide +kernel
theorem dX2_payerOn_19 : decode cX2_payerOn 19 = .ok (.ireturn, 1) := by decide +kernel
theorem dX2_payerOn_20 : decode cX2_payerOn 20 = .ok (.aload_n 0, 1) := by decide +kernel
theorem dX2_payerOn_21 : decode cX2_payerOn 21 = .ok (.getfield 18, 3) := by decide +kernel
theorem dX2_payerOn_24 : decode cX2_payerOn 24 = .ok (.iload_n 1, 1) := by decide +kernel
theorem dX2_payerOn_25 : decode cX2_payerOn 25 = .ok (.iaload, 1) := by decide +kernel
theorem dX2_payerOn_26 : decode cX2_payerOn 26 = .ok (.aload_n 0, 1) := by decide +kernel
theorem dX2_payerOn_27 : decode cX2_payerOn 27 = .ok (.getfield 43, 3) := by decide +kernel
theorem dX2_payerOn_30 : decode cX2_payerOn 30 = .ok (.isub, 1) := by decide +kernel
theorem dX2_payerOn_31 : decode cX2_payerOn 31 = .ok (.aload_n 0, 1) := by decide +kernel
theorem dX2_payerOn_32 : decode cX2_payerOn 32 = .ok (.getfield 47, 3) := by decide +kernel
theorem dX2_payerOn_35 : decode cX2_payerOn 35 = .ok (.ineg, 1) := by decide +kernel
theorem dX2_payerOn_36 : decode cX2_payerOn 36 = .ok (.if_icmp .lt 5, 3) := by decide +kernel
theorem dX2_payerOn_39 : decode cX2_payerOn 39 = .ok (.iload_n 1, 1) := by decide +kernel
theorem dX2_payerOn_40 : decode cX2_payerOn 40 = .ok (.ireturn, 1) := by decide +kernel
theorem dX2_payerOn_41 : decode cX2_payerOn 41 = .ok (.aload_n 0, 1) := by decide +kernel
theorem dX2_payerOn_42 : decode cX2_payerOn 42 = .ok (.getfield 30, 3) := by decide +kernel
theorem dX2_payerOn_45 : decode cX2_payerOn 45 = .ok (.aload_n 0, 1) := by decide +kernel
theorem dX2_payerOn_46 : decode cX2_payerOn 46 = .ok (.getfield 9, 3) := by decide +kernel
theorem dX2_payerOn_49 : decode cX2_payerOn 49 = .ok (.iload_n 1, 1) := by decide +kernel
theorem dX2_payerOn_50 : decode cX2_payerOn 50 = .ok (.iaload, 1) := by decide +kernel
theorem dX2_payerOn_51 : decode cX2_payerOn 51 = .ok (.iaload, 1) := by decide +kernel
theorem dX2_payerOn_52 : decode cX2_payerOn 52 = .ok (.iconst 1, 1) := by decide +kernel
theorem dX2_payerOn_53 : decode cX2_payerOn 53 = .ok (.if_icmp .ne 11, 3) := by decide +kernel
theorem dX2_payerOn_56 : decode cX2_payerOn 56 = .ok (.aload_n 0, 1) := by decide +kernel
theorem dX2_payerOn_57 : decode cX2_payerOn 57 = .ok (.iload_n 1, 1) := by decide +kernel
theorem dX2_payerOn_58 : decode cX2_payerOn 58 = .ok (.invokevirtual 147, 3) := by decide +kernel
theorem dX2_payerOn_61 : decode cX2_payerOn 61 = .ok (.goto 4, 3) := by decide +kernel
theorem dX2_payerOn_64 : decode cX2_payerOn 64 = .ok (.iconst (-1), 1) := by decide +kernel
theorem dX2_payerOn_65 : decode cX2_payerOn 65 = .ok (.ireturn, 1) := by decide +kernel
set_option maxRecDepth 20000 in
theorem ggX2_kindWithoutPayer_X2_isSuited : GoodIn wsX2_kindWithoutPayer wsX2_isSuited := goodIn_r _ [5, 6, 7, 14, 15, 16, 17, 18, 19, 20, 21, 22, 23, 24, 25, 26, 27] (by decide +kernel) (by decide +kernel)
set_option maxRecDepth 20000 in
theorem gX2_kindWithoutPayer_X2_isSuited : GoodIn wsX2_kindWithoutPayer (wsV RX2 144 RX2 yX2_isSuited wsX2_isSuited) := goodIn_app (goodIn_of _ (by decide +kernel)) ggX2_kindWithoutPayer_X2_isSuited
set_option maxRecDepth 20000 in
theorem ggX2_kindWithoutPayer_X2_isEntitled : GoodIn wsX2_kindWithoutPayer wsX2_isEntitled := goodIn_r _ [11, 12, 13, 14, 15, 16, 17, 18, 19, 20, 21, 22, 23, 24, 25, 26, 27] (by decide +kernel) (by decide +kernel)
set_option maxRecDepth 20000 in
theorem gX2_kindWithoutPayer_X2_isEntitled : GoodIn wsX2_kindWithoutPayer (wsV RX2 121 RX2 yX2_isEntitled wsX2_isEntitled) := goodIn_app (goodIn_of _ (by decide +kernel)) ggX2_kindWithoutPayer_X2_isEntitled
theorem dX2_kindWithoutPayer_0 : decode cX2_kindWithoutPayer 0 = .ok (.aload_n 0, 1) := by decide +kernel
theorem dX2_kindWithoutPayer_1 : decode cX2_kindWithoutPayer 1 = .ok (.iload_n 1, 1) := by decide +kernel
theorem dX2_kindWithoutPayer_2 : decode cX2_kindWithoutPayer 2 = .ok (.iload_n 2, 1) := by decide +kernel
theorem dX2_kindWithoutPayer_3 : decode cX2_kindWithoutPayer 3 = .ok (.invokevirtual 144, 3) := by decide +kernel
theorem dX2_kindWithoutPayer_6 : decode cX2_kindWithoutPayer 6 = .ok (.ifCond .ne 5, 3) := by decide +kernel
theorem dX2_kindWithoutPayer_9 : decode cX2_kindWithoutPayer 9 = .ok (.iconst 5, 1) := by decide +kernel
theorem dX2_kindWithoutPayer_10 : decode cX2_kindWithoutPayer 10 = .ok (.ireturn, 1) := by decide +kernel
theorem dX2_kindWithoutPayer_11 : decode cX2_kindWithoutPayer 11 = .ok (.aload_n 0, 1) := by decide +kernel
theorem dX2_kindWithoutPayer_12 : decode cX2_kindWithoutPayer 12 = .ok (.iload_n 1, 1) := by decide +kernel
theorem dX2_kindWithoutPayer_13 : decode cX2_kindWithoutPayer 13 = .ok (.iload_n 2, 1) := by decide +kernel
theorem dX2_kindWithoutPayer_14 : decode cX2_kindWithoutPayer 14 = .ok (.invokevirtual 121, 3) := by decide +kernel
theorem dX2_kindWithoutPayer_17 : decode cX2_kindWithoutPayer 17 = .ok (.ifCond .eq 7, 3) := by decide +kernel
theorem dX2_kindWithoutPayer_20 : decode cX2_kindWithoutPayer 20 = .ok (.iconst 3, 1) := by decide +kernel
theorem dX2_kindWithoutPayer_21 : decode cX2_kindWithoutPayer 21 = .ok (.goto 4, 3) := by decide +kernel
theorem dX2_kindWithoutPayer_24 : decode cX2_kindWithoutPayer 24 = .ok (.iconst 4, 1) := by decide +kernel
theorem dX2_kindWithoutPayer_25 : decode cX2_kindWithoutPayer 25 = .ok (.ireturn, 1) := by decide +kernel
theorem dX2_richestSibling_0 : decode cX2_richestSibling 0 = .ok (.iconst (-1), 1) := by decide +kernel
theorem dX2_richestSibling_1 : decode cX2_richestSibling 1 = .ok (.istore_n 2, 1) := by decide +kernel
theorem dX2_richestSibling_2 : decode cX2_richestSibling 2 = .ok (.aload_n 0, 1) := by decide +kernel
theorem dX2_richestSibling_3 : decode cX2_richestSibling 3 = .ok (.getfield 43, 3) := by decide +kernel
theorem dX2_richestSibling_6 : decode cX2_richestSibling 6 = .ok (.iconst 1, 1) := by decide +kernel
theorem dX2_richestSibling_7 : decode cX2_richestSibling 7 = .ok (.isub, 1) := by decide +kernel
theorem dX2_richestSibling_8 : decode cX2_richestSibling 8 = .ok (.istore_n 3, 1) := by decide +kernel
theorem dX2_richestSibling_9 : decode cX2_richestSibling 9 = .ok (.iconst 0, 1) := by decide +kernel
theorem dX2_richestSibling_10 : decode cX2_richestSibling 10 = .ok (.istore 4, 2) := by decide +kernel
theorem dX2_richestSibling_12 : decode cX2_richestSibling 12 = .ok (.iload 4, 2) := by decide +kernel
theorem dX2_richestSibling_14 : decode cX2_richestSibling 14 = .ok (.aload_n 0, 1) := by decide +kernel
theorem dX2_richestSibling_15 : decode cX2_richestSibling 15 = .ok (.getfield 53, 3) := by decide +kernel
theorem dX2_richestSibling_18 : decode cX2_richestSibling 18 = .ok (.if_icmp .ge 53, 3) := by decide +kernel
theorem dX2_richestSibling_21 : decode cX2_richestSibling 21 = .ok (.iload 4, 2) := by decide +kernel
theorem dX2_richestSibling_23 : decode cX2_richestSibling 23 = .ok (.iload_n 1, 1) := by decide +kernel
theorem dX2_richestSibling_24 : decode cX2_richestSibling 24 = .ok (.if_icmp .eq 41, 3) := by decide +kernel
theorem dX2_richestSibling_27 : decode cX2_richestSibling 27 = .ok (.aload_n 0, 1) := by decide +kernel
theorem dX2_richestSibling_28 : decode cX2_richestSibling 28 = .ok (.getfield 9, 3) := by decide +kernel
theorem dX2_richestSibling_31 : decode cX2_richestSibling 31 = .ok (.iload 4, 2) := by decide +kernel
theorem dX2_richestSibling_33 : decode cX2_richestSibling 33 = .ok (.iaload, 1) := by decide +kernel
theorem dX2_richestSibling_34 : decode cX2_richestSibling 34 = .ok (.aload_n 0, 1) := by decide +kernel
theorem dX2_richestSibling_35 : decode cX2_richestSibling 35 = .ok (.getfield 9, 3) := by decide +kernel
theorem dX2_richestSibling_38 : decode cX2_richestSibling 38 = .ok (.iload_n 1, 1) := by decide +kernel
theorem dX2_richestSibling_39 : decode cX2_richestSibling 39 = .ok (.iaload, 1) := by decide +kernel
theorem dX2_richestSibling_40 : decode cX2_richestSibling 40 = .ok (.if_icmp .ne 25, 3) := by decide +kernel
theorem dX2_richestSibling_43 : decode cX2_richestSibling 43 = .ok (.aload_n 0, 1) := by decide +kernel
theorem dX2_richestSibling_44 : decode cX2_richestSibling 44 = .ok (.getfield 18, 3) := by decide +kernel
theorem dX2_richestSibling_47 : decode cX2_richestSibling 47 = .ok (.iload 4, 2) := by decide +kernel
theorem dX2_richestSibling_49 : decode cX2_richestSibling 49 = .ok (.iaload, 1) := by decide +kernel
theorem dX2_richestSibling_50 : decode cX2_richestSibling 50 = .ok (.iload_n 3, 1) := by decide +kernel
theorem dX2_richestSibling_51 : decode cX2_richestSibling 51 = .ok (.if_icmp .le 14, 3) := by decide +kernel
theorem dX2_richestSibling_54 : decode cX2_richestSibling 54 = .ok (.iload 4, 2) := by decide +kernel
theorem dX2_richestSibling_56 : decode cX2_richestSibling 56 = .ok (.istore_n 2, 1) := by decide +kernel
theorem dX2_richestSibling_57 : decode cX2_richestSibling 57 = .ok (.aload_n 0, 1) := by decide +kernel
theorem dX2_richestSibling_58 : decode cX2_richestSibling 58 = .ok (.getfield 18, 3) := by decide +kernel
theorem dX2_richestSibling_61 : decode cX2_richestSibling 61 = .ok (.iload 4, 2) := by decide +kernel
theorem dX2_richestSibling_63 : decode cX2_richestSibling 63 = .ok (.iaload, 1) := by decide +kernel
theorem dX2_richestSibling_64 : decode cX2_richestSibling 64 = .ok (.istore_n 3, 1) := by decide +kernel
theorem dX2_richestSibling_65 : decode cX2_richestSibling 65 = .ok (.iinc 4 1, 3) := by decide +kernel
theorem dX2_richestSibling_68 : decode cX2_richestSibling 68 = .ok (.goto (-56), 3) := by decide +kernel
theorem dX2_richestSibling_71 : decode cX2_richestSibling 71 = .ok (.iload_n 2, 1) := by decide +kernel
theorem dX2_richestSibling_72 : decode cX2_richestSibling 72 = .ok (.ireturn, 1) := by decide +kernel
set_option maxRecDepth 20000 in
theorem ggX2_spendUntilRefused_X3_kindOf : GoodIn wsX2_spendUntilRefused wsX3_kindOf := goodIn_r _ [9, 10, 11, 12, 8, 13, 61, 62, 63] (by decide +kernel) (by decide +kernel)
set_option maxRecDepth 20000 in
theorem gX2_spendUntilRefused_X3_kindOf : GoodIn wsX2_spendUntilRefused (wsV RX2 128 RX3 yX3_kindOf wsX3_kindOf) := goodIn_app (goodIn_of _ (by decide +kernel)) ggX2_spendUntilRefused_X3_kindOf
set_option maxRecDepth 20000 in
theorem ggX2_spendUntilRefused_X2_spend : GoodIn wsX2_spendUntilRefused wsX2_spend := goodIn_r _ [18, 19, 20, 21, 22, 23, 17, 24, 25, 26, 3, 27, 28, 29, 30, 31, 32, 33, 34, 35, 36, 37, 38, 39, 40, 41, 42, 2, 43, 44, 45, 46, 47, 48, 49, 50, 51, 52, 53, 54, 55, 56, 57, 58, 59, 60] (by decide +kernel) (by decide +kernel)
set_option maxRecDepth 20000 in
theorem gX2_spendUntilRefused_X2_spend : GoodIn wsX2_spendUntilRefused (wsV RX2 150 RX2 yX2_spend wsX2_spend) := goodIn_app (goodIn_of _ (by decide +kernel)) ggX2_spendUntilRefused_X2_spend
theorem dX2_spendUntilRefused_0 : decode cX2_spendUntilRefused 0 = .ok (.aload_n 0, 1) := by decide +kernel
theorem dX2_spendUntilRefused_1 : decode cX2_spendUntilRefused 1 = .ok (.getfield 50, 3) := by decide +kernel
theorem dX2_spendUntilRefused_4 : decode cX2_spendUntilRefused 4 = .ok (.istore_n 3, 1) := by decide +kernel
theorem dX2_spendUntilRefused_5 : decode cX2_spendUntilRefused 5 = .ok (.iload_n 3, 1) := by decide +kernel
theorem dX2_spendUntilRefused_6 : decode cX2_spendUntilRefused 6 = .ok (.bipush 40, 2) := by decide +kernel
theorem dX2_spendUntilRefused_8 : decode cX2_spendUntilRefused 8 = .ok (.if_icmp .ge 75, 3) := by decide +kernel
theorem dX2_spendUntilRefused_11 : decode cX2_spendUntilRefused 11 = .ok (.iconst 0, 1) := by decide +kernel
theorem dX2_spendUntilRefused_12 : decode cX2_spendUntilRefused 12 = .ok (.istore 4, 2) := by decide +kernel
theorem dX2_spendUntilRefused_14 : decode cX2_spendUntilRefused 14 = .ok (.iload 4, 2) := by decide +kernel
theorem dX2_spendUntilRefused_16 : decode cX2_spendUntilRefused 16 = .ok (.aload_n 0, 1) := by decide +kernel
theorem dX2_spendUntilRefused_17 : decode cX2_spendUntilRefused 17 = .ok (.getfield 53, 3) := by decide +kernel
theorem dX2_spendUntilRefused_20 : decode cX2_spendUntilRefused 20 = .ok (.if_icmp .ge 57, 3) := by decide +kernel
theorem dX2_spendUntilRefused_23 : decode cX2_spendUntilRefused 23 = .ok (.aload_n 0, 1) := by decide +kernel
theorem dX2_spendUntilRefused_24 : decode cX2_spendUntilRefused 24 = .ok (.getfield 9, 3) := by decide +kernel
theorem dX2_spendUntilRefused_27 : decode cX2_spendUntilRefused 27 = .ok (.iload 4, 2) := by decide +kernel
theorem dX2_spendUntilRefused_29 : decode cX2_spendUntilRefused 29 = .ok (.iaload, 1) := by decide +kernel
theorem dX2_spendUntilRefused_30 : decode cX2_spendUntilRefused 30 = .ok (.iload_n 1, 1) := by decide +kernel
theorem dX2_spendUntilRefused_31 : decode cX2_spendUntilRefused 31 = .ok (.if_icmp .ne 40, 3) := by decide +kernel
theorem dX2_spendUntilRefused_34 : decode cX2_spendUntilRefused 34 = .ok (.aload_n 0, 1) := by decide +kernel
theorem dX2_spendUntilRefused_35 : decode cX2_spendUntilRefused 35 = .ok (.getfield 39, 3) := by decide +kernel
theorem dX2_spendUntilRefused_38 : decode cX2_spendUntilRefused 38 = .ok (.iload 4, 2) := by decide +kernel
theorem dX2_spendUntilRefused_40 : decode cX2_spendUntilRefused 40 = .ok (.iload_n 3, 1) := by decide +kernel
theorem dX2_spendUntilRefused_41 : decode cX2_spendUntilRefused 41 = .ok (.invokevirtual 128, 3) := by decide +kernel
theorem dX2_spendUntilRefused_44 : decode cX2_spendUntilRefused 44 = .ok (.iconst 1, 1) := by decide +kernel
theorem dX2_spendUntilRefused_45 : decode cX2_spendUntilRefused 45 = .ok (.if_icmp .ne 26, 3) := by decide +kernel
theorem dX2_spendUntilRefused_48 : decode cX2_spendUntilRefused 48 = .ok (.aload_n 0, 1) := by decide +kernel
theorem dX2_spendUntilRefused_49 : decode cX2_spendUntilRefused 49 = .ok (.iload 4, 2) := by decide +kernel
theorem dX2_spendUntilRefused_51 : decode cX2_spendUntilRefused 51 = .ok (.iload_n 3, 1) := by decide +kernel
theorem dX2_spendUntilRefused_52 : decode cX2_spendUntilRefused 52 = .ok (.invokevirtual 150, 3) := by decide +kernel
theorem dX2_spendUntilRefused_55 : decode cX2_spendUntilRefused 55 = .ok (.ifCond .ne 16, 3) := by decide +kernel
theorem dX2_spendUntilRefused_58 : decode cX2_spendUntilRefused 58 = .ok (.iload_n 2, 1) := by decide +kernel
theorem dX2_spendUntilRefused_59 : decode cX2_spendUntilRefused 59 = .ok (.iconst (-1), 1) := by decide +kernel
theorem dX2_spendUntilRefused_60 : decode cX2_spendUntilRefused 60 = .ok (.if_icmp .eq 9, 3) := by decide +kernel
theorem dX2_spendUntilRefused_63 : decode cX2_spendUntilRefused 63 = .ok (.iload_n 2, 1) := by decide +kernel
theorem dX2_spendUntilRefused_64 : decode cX2_spendUntilRefused 64 = .ok (.iload 4, 2) := by decide +kernel
theorem dX2_spendUntilRefused_66 : decode cX2_spendUntilRefused 66 = .ok (.if_icmp .ne 5, 3) := by decide +kernel
theorem dX2_spendUntilRefused_69 : decode cX2_spendUntilRefused 69 = .ok (.iload_n 3, 1) := by decide +kernel
theorem dX2_spendUntilRefused_70 : decode cX2_spendUntilRefused 70 = .ok (.ireturn, 1) := by decide +kernel
theorem dX2_spendUntilRefused_71 : decode cX2_spendUntilRefused 71 = .ok (.iinc 4 1, 3) := by decide +kernel
theorem dX2_spendUntilRefused_74 : decode cX2_spendUntilRefused 74 = .ok (.goto (-60), 3) := by decide +kernel
theorem dX2_spendUntilRefused_77 : decode cX2_spendUntilRefused 77 = .ok (.iinc 3 1, 3) := by decide +kernel
theorem dX2_spendUntilRefused_80 : decode cX2_spendUntilRefused 80 = .ok (.goto (-75), 3) := by decide +kernel
theorem dX2_spendUntilRefused_83 : decode cX2_spendUntilRefused 83 = .ok (.iconst (-1), 1) := by decide +kernel
theorem dX2_spendUntilRefused_84 : decode cX2_spendUntilRefused 84 = .ok (.ireturn, 1) := by decide +kernel
set_option maxRecDepth 20000 in
theorem ggX2_spend_X2_payerOn : GoodIn wsX2_spend wsX2_payerOn := goodIn_r _ [7, 1, 2, 8, 9, 10, 11, 12, 13, 6, 14, 15, 16, 17, 18, 19, 20, 21, 22, 23, 24, 25, 26, 27, 32, 33, 34, 35, 36, 37, 38, 39, 40, 41, 42, 43, 44, 45] (by decide +kernel) (by decide +kernel)
set_option maxRecDepth 20000 in
theorem gX2_spend_X2_payerOn : GoodIn wsX2_spend (wsV RX2 138 RX2 yX2_payerOn wsX2_payerOn) := goodIn_app (goodIn_of _ (by decide +kernel)) ggX2_spend_X2_payerOn
set_option maxRecDepth 20000 in
theorem ggX2_spend_X2_kindWithoutPayer : GoodIn wsX2_spend wsX2_kindWithoutPayer := goodIn_r _ [31, 11, 12, 13, 6, 14, 15, 16, 17, 18, 19, 20, 21, 22, 32, 33, 34, 35, 36, 37, 38, 39, 40, 41, 42, 43, 44, 45] (by decide +kernel) (by decide +kernel)
set_option maxRecDepth 20000 in
theorem gX2_spend_X2_kindWithoutPayer : GoodIn wsX2_spend (wsV RX2 141 RX2 yX2_kindWithoutPayer wsX2_kindWithoutPayer) := goodIn_app (goodIn_of _ (by decide +kernel)) ggX2_spend_X2_kindWithoutPayer
theorem dX2_spend_0 : decode cX2_spend 0 = .ok (.aload_n 0, 1) := by decide +kernel
theorem dX2_spend_1 : decode cX2_spend 1 = .ok (.iload_n 1, 1) := by decide +kernel
theorem dX2_spend_2 : decode cX2_spend 2 = .ok (.iload_n 2, 1) := by decide +kernel
theorem dX2_spend_3 : decode cX2_spend 3 = .ok (.invokevirtual 138, 3) := by decide +kernel
theorem dX2_spend_6 : decode cX2_spend 6 = .ok (.istore_n 3, 1) := by decide +kernel
theorem dX2_spend_7 : decode cX2_spend 7 = .ok (.iload_n 3, 1) := by decide +kernel
theorem dX2_spend_8 : decode cX2_spend 8 = .ok (.iconst (-1), 1) := by decide +kernel
theorem dX2_spend_9 : decode cX2_spend 9 = .ok (.if_icmp .ne 19, 3) := by decide +kernel
theorem dX2_spend_12 : decode cX2_spend 12 = .ok (.aload_n 0, 1) := by decide +kernel
theorem dX2_spend_13 : decode cX2_spend 13 = .ok (.iload_n 1, 1) := by decide +kernel
theorem dX2_spend_14 : decode cX2_spend 14 = .ok (.iload_n 2, 1) := by decide +kernel
theorem dX2_spend_15 : decode cX2_spend 15 = .ok (.invokevirtual 141, 3) := by decide +kernel
theorem dX2_spend_18 : decode cX2_spend 18 = .ok (.iconst 4, 1) := by decide +kernel
theorem dX2_spend_19 : decode cX2_spend 19 = .ok (.if_icmp .eq 7, 3) := by decide +kernel
theorem dX2_spend_22 : decode cX2_spend 22 = .ok (.iconst 1, 1) := by decide +kernel
theorem dX2_spend_23 : decode cX2_spend 23 = .ok (.goto 4, 3) := by decide +kernel
theorem dX2_spend_26 : decode cX2_spend 26 = .ok (.iconst 0, 1) := by decide +kernel
theorem dX2_spend_27 : decode cX2_spend 27 = .ok (.ireturn, 1) := by decide +kernel
theorem dX2_spend_28 : decode cX2_spend 28 = .ok (.aload_n 0, 1) := by decide +kernel
theorem dX2_spend_29 : decode cX2_spend 29 = .ok (.getfield 18, 3) := by decide +kernel
theorem dX2_spend_32 : decode cX2_spend 32 = .ok (.iload_n 3, 1) := by decide +kernel
theorem dX2_spend_33 : decode cX2_spend 33 = .ok (.dup2, 1) := by decide +kernel
theorem dX2_spend_34 : decode cX2_spend 34 = .ok (.iaload, 1) := by decide +kernel
theorem dX2_spend_35 : decode cX2_spend 35 = .ok (.aload_n 0, 1) := by decide +kernel
theorem dX2_spend_36 : decode cX2_spend 36 = .ok (.getfield 43, 3) := by decide +kernel
theorem dX2_spend_39 : decode cX2_spend 39 = .ok (.isub, 1) := by decide +kernel
theorem dX2_spend_40 : decode cX2_spend 40 = .ok (.iastore, 1) := by decide +kernel
theorem dX2_spend_41 : decode cX2_spend 41 = .ok (.iconst 1, 1) := by decide +kernel
theorem dX2_spend_42 : decode cX2_spend 42 = .ok (.ireturn, 1) := by decide +kernel
set_option maxRecDepth 20000 in
theorem ggX2_tryCome_X2_faultOfCome : GoodIn wsX2_tryCome wsX2_faultOfCome := goodIn_r _ [5, 6, 7, 8, 9, 19, 20, 21, 22, 23, 24, 25, 26, 27, 28, 29, 30, 31, 32] (by decide +kernel) (by decide +kernel)
set_option maxRecDepth 20000 in
theorem gX2_tryCome_X2_faultOfCome : GoodIn wsX2_tryCome (wsV RX2 153 RX2 yX2_faultOfCome wsX2_faultOfCome) := goodIn_app (goodIn_of _ (by decide +kernel)) ggX2_tryCome_X2_faultOfCome
set_option maxRecDepth 20000 in
theorem ggX2_tryCome_X2_addChild : GoodIn wsX2_tryCome wsX2_addChild := goodIn_r _ [13, 6, 14, 15, 16, 17, 18, 19, 20, 21, 22, 23, 24, 25, 26, 27, 28, 29, 30, 31, 32] (by decide +kernel) (by decide +kernel)
set_option maxRecDepth 20000 in
theorem gX2_tryCome_X2_addChild : GoodIn wsX2_tryCome (wsV RX2 156 RX2 yX2_addChild wsX2_addChild) := goodIn_app (goodIn_of _ (by decide +kernel)) ggX2_tryCome_X2_addChild
theorem dX2_tryCome_0 : decode cX2_tryCome 0 = .ok (.aload_n 0, 1) := by decide +kernel
theorem dX2_tryCome_1 : decode cX2_tryCome 1 = .ok (.iload_n 1, 1) := by decide +kernel
theorem dX2_tryCome_2 : decode cX2_tryCome 2 = .ok (.iload_n 2, 1) := by decide +kernel
theorem dX2_tryCome_3 : decode cX2_tryCome 3 = .ok (.invokevirtual 153, 3) := by decide +kernel
theorem dX2_tryCome_6 : decode cX2_tryCome 6 = .ok (.ifCond .eq 5, 3) := by decide +kernel
theorem dX2_tryCome_9 : decode cX2_tryCome 9 = .ok (.iconst 0, 1) := by decide +kernel
theorem dX2_tryCome_10 : decode cX2_tryCome 10 = .ok (.ireturn, 1) := by decide +kernel
theorem dX2_tryCome_11 : decode cX2_tryCome 11 = .ok (.aload_n 0, 1) := by decide +kernel
theorem dX2_tryCome_12 : decode cX2_tryCome 12 = .ok (.iload_n 1, 1) := by decide +kernel
theorem dX2_tryCome_13 : decode cX2_tryCome 13 = .ok (.iload_n 2, 1) := by decide +kernel
theorem dX2_tryCome_14 : decode cX2_tryCome 14 = .ok (.invokevirtual 156, 3) := by decide +kernel
theorem dX2_tryCome_17 : decode cX2_tryCome 17 = .ok (.pop, 1) := by decide +kernel
theorem dX2_tryCome_18 : decode cX2_tryCome 18 = .ok (.iconst 1, 1) := by decide +kernel
theorem dX2_tryCome_19 : decode cX2_tryCome 19 = .ok (.ireturn, 1) := by decide +kernel
set_option maxRecDepth 20000 in
theorem ggX2_tryMenu_X2_faultOfMenu : GoodIn wsX2_tryMenu wsX2_faultOfMenu := goodIn_r _ [5, 6, 7, 8, 9, 15, 16, 17, 18, 19, 20, 21, 22, 23, 24, 25, 26, 27, 28] (by decide +kernel) (by decide +kernel)
set_option maxRecDepth 20000 in
theorem gX2_tryMenu_X2_faultOfMenu : GoodIn wsX2_tryMenu (wsV RX2 159 RX2 yX2_faultOfMenu wsX2_faultOfMenu) := goodIn_app (goodIn_of _ (by decide +kernel)) ggX2_tryMenu_X2_faultOfMenu
set_option maxRecDepth 20000 in
theorem ggX2_tryMenu_X2_changeMenu : GoodIn wsX2_tryMenu wsX2_changeMenu := goodIn_r _ [13, 14, 15, 16, 17, 18, 19, 20, 21, 22, 23, 24, 25, 26, 27, 28] (by decide +kernel) (by decide +kernel)
set_option maxRecDepth 20000 in
theorem gX2_tryMenu_X2_changeMenu : GoodIn wsX2_tryMenu (wsV RX2 162 RX2 yX2_changeMenu wsX2_changeMenu) := goodIn_app (goodIn_of _ (by decide +kernel)) ggX2_tryMenu_X2_changeMenu
theorem dX2_tryMenu_0 : decode cX2_tryMenu 0 = .ok (.aload_n 0, 1) := by decide +kernel
theorem dX2_tryMenu_1 : decode cX2_tryMenu 1 = .ok (.iload_n 1, 1) := by decide +kernel
theorem dX2_tryMenu_2 : decode cX2_tryMenu 2 = .ok (.iload_n 2, 1) := by decide +kernel
theorem dX2_tryMenu_3 : decode cX2_tryMenu 3 = .ok (.invokevirtual 159, 3) := by decide +kernel
theorem dX2_tryMenu_6 : decode cX2_tryMenu 6 = .ok (.ifCond .eq 5, 3) := by decide +kernel
theorem dX2_tryMenu_9 : decode cX2_tryMenu 9 = .ok (.iconst 0, 1) := by decide +kernel
theorem dX2_tryMenu_10 : decode cX2_tryMenu 10 = .ok (.ireturn, 1) := by decide +kernel
theorem dX2_tryMenu_11 : decode cX2_tryMenu 11 = .ok (.aload_n 0, 1) := by decide +kernel
theorem dX2_tryMenu_12 : decode cX2_tryMenu 12 = .ok (.iload_n 1, 1) := by decide +kernel
theorem dX2_tryMenu_13 : decode cX2_tryMenu 13 = .ok (.iload_n 2, 1) := by decide +kernel
theorem dX2_tryMenu_14 : decode cX2_tryMenu 14 = .ok (.invokevirtual 162, 3) := by decide +kernel
theorem dX2_tryMenu_17 : decode cX2_tryMenu 17 = .ok (.pop, 1) := by decide +kernel
theorem dX2_tryMenu_18 : decode cX2_tryMenu 18 = .ok (.iconst 1, 1) := by decide +kernel
theorem dX2_tryMenu_19 : decode cX2_tryMenu 19 = .ok (.ireturn, 1) := by decide +kernel
set_option maxRecDepth 20000 in
theorem ggX2_tryOrder_X2_faultOfOrder : GoodIn wsX2_tryOrder wsX2_faultOfOrder := goodIn_r _ [5, 6, 7, 8, 9, 4, 10, 11, 12, 13, 14, 41, 42, 43, 44, 45, 46, 47, 48, 49, 50, 51, 52, 53, 54] (by decide +kernel) (by decide +kernel)
set_option maxRecDepth 20000 in
theorem gX2_tryOrder_X2_faultOfOrder : GoodIn wsX2_tryOrder (wsV RX2 165 RX2 yX2_faultOfOrder wsX2_faultOfOrder) := goodIn_app (goodIn_of _ (by decide +kernel)) ggX2_tryOrder_X2_faultOfOrder
set_option maxRecDepth 20000 in
theorem ggX2_tryOrder_X2_changeOrder : GoodIn wsX2_tryOrder wsX2_changeOrder := goodIn_r _ [18, 19, 20, 21, 22, 23, 24, 25, 26, 27, 28, 29, 30, 31, 32, 33, 34, 35, 36, 37, 38, 39, 40, 41, 42, 43, 44, 45, 46, 47, 48, 49, 50, 51, 52, 53, 54, 55, 56, 57] (by decide +kernel) (by decide +kernel)
set_option maxRecDepth 20000 in
theorem gX2_tryOrder_X2_changeOrder : GoodIn wsX2_tryOrder (wsV RX2 168 RX2 yX2_changeOrder wsX2_changeOrder) := goodIn_app (goodIn_of _ (by decide +kernel)) ggX2_tryOrder_X2_changeOrder
theorem dX2_tryOrder_0 : decode cX2_tryOrder 0 = .ok (.aload_n 0, 1) := by decide +kernel
theorem dX2_tryOrder_1 : decode cX2_tryOrder 1 = .ok (.iload_n 1, 1) := by decide +kernel
theorem dX2_tryOrder_2 : decode cX2_tryOrder 2 = .ok (.iload_n 2, 1) := by decide +kernel
theorem dX2_tryOrder_3 : decode cX2_tryOrder 3 = .ok (.invokevirtual 165, 3) := by decide +kernel
theorem dX2_tryOrder_6 : decode cX2_tryOrder 6 = .ok (.ifCond .eq 5, 3) := by decide +kernel
theorem dX2_tryOrder_9 : decode cX2_tryOrder 9 = .ok (.iconst 0, 1) := by decide +kernel
theorem dX2_tryOrder_10 : decode cX2_tryOrder 10 = .ok (.ireturn, 1) := by decide +kernel
theorem dX2_tryOrder_11 : decode cX2_tryOrder 11 = .ok (.aload_n 0, 1) := by decide +kernel
theorem dX2_tryOrder_12 : decode cX2_tryOrder 12 = .ok (.iload_n 1, 1) := by decide +kernel
theorem dX2_tryOrder_13 : decode cX2_tryOrder 13 = .ok (.iload_n 2, 1) := by decide +kernel
theorem dX2_tryOrder_14 : decode cX2_tryOrder 14 = .ok (.iload_n 3, 1) := by decide +kernel
theorem dX2_tryOrder_15 : decode cX2_tryOrder 15 = .ok (.invokevirtual 168, 3) := by decide +kernel
theorem dX2_tryOrder_18 : decode cX2_tryOrder 18 = .ok (.pop, 1) := by decide +kernel
theorem dX2_tryOrder_19 : decode cX2_tryOrder 19 = .ok (.iconst 1, 1) := by decide +kernel
theorem dX2_tryOrder_20 : decode cX2_tryOrder 20 = .ok (.ireturn, 1) := by decide +kernel
set_option maxRecDepth 20000 in
theorem ggX2_tryOtherOrder_X2_hasChild : GoodIn wsX2_tryOtherOrder wsX2_hasChild := goodIn_r _ [6, 7, 46, 47, 48, 49, 50, 51, 52, 53, 54, 55, 56, 57, 58, 59] (by decide +kernel) (by decide +kernel)
set_option maxRecDepth 20000 in
theorem gX2_tryOtherOrder_X2_hasChild : GoodIn wsX2_tryOtherOrder (wsV RX2 89 RX2 yX2_hasChild wsX2_hasChild) := goodIn_app (goodIn_of _ (by decide +kernel)) ggX2_tryOtherOrder_X2_hasChild
set_option maxRecDepth 20000 in
theorem ggX2_tryOtherOrder_X5_isDay : GoodIn wsX2_tryOtherOrder wsX5_isDay := goodIn_r _ [10] (by decide +kernel) (by decide +kernel)
set_option maxRecDepth 20000 in
theorem gX2_tryOtherOrder_X5_isDay_n86 : GoodIn wsX2_tryOtherOrder (wsX5_isDay) := ggX2_tryOtherOrder_X5_isDay
set_option maxRecDepth 20000 in
theorem ggX2_tryOtherOrder_X3_kindOf : GoodIn wsX2_tryOtherOrder wsX3_kindOf := goodIn_r _ [15, 16, 17, 18, 14, 19, 60, 61, 62] (by decide +kernel) (by decide +kernel)
set_option maxRecDepth 20000 in
theorem gX2_tryOtherOrder_X3_kindOf : GoodIn wsX2_tryOtherOrder (wsV RX2 128 RX3 yX3_kindOf wsX3_kindOf) := goodIn_app (goodIn_of _ (by decide +kernel)) ggX2_tryOtherOrder_X3_kindOf
set_option maxRecDepth 20000 in
theorem ggX2_tryOtherOrder_X2_tryOrder : GoodIn wsX2_tryOtherOrder wsX2_tryOrder := goodIn_r _ [23, 24, 25, 26, 5, 27, 28, 2, 3, 4, 6, 7, 8, 9, 10, 29, 30, 31, 32, 1, 33, 34, 35, 14, 36, 16, 17, 18, 19, 37, 38, 39, 40, 41, 42, 43, 44, 45, 12, 13, 15, 46, 47, 48, 49, 50, 51, 52, 53, 54, 55, 56, 57, 58, 59, 60, 61, 62] (by decide +kernel) (by decide +kernel)
set_option maxRecDepth 20000 in
theorem gX2_tryOtherOrder_X2_tryOrder : GoodIn wsX2_tryOtherOrder (wsV RX2 172 RX2 yX2_tryOrder wsX2_tryOrder) := goodIn_app (goodIn_of _ (by decide +kernel)) ggX2_tryOtherOrder_X2_tryOrder
theorem dX2_tryOtherOrder_0 : decode cX2_tryOtherOrder 0 = .ok (.aload_n 0, 1) := by decide +kernel
theorem dX2_tryOtherOrder_1 : decode cX2_tryOtherOrder 1 = .ok (.iload_n 1, 1) := by decide +kernel
theorem dX2_tryOtherOrder_2 : decode cX2_tryOtherOrder 2 = .ok (.invokevirtual 89, 3) := by decide +kernel
theorem dX2_tryOtherOrder_5 : decode cX2_tryOtherOrder 5 = .ok (.ifCond .eq 40, 3) := by decide +kernel
theorem dX2_tryOtherOrder_8 : decode cX2_tryOtherOrder 8 = .ok (.iload_n 2, 1) := by decide +kernel
theorem dX2_tryOtherOrder_9 : decode cX2_tryOtherOrder 9 = .ok (.invokestatic 86, 3) := by decide +kernel
theorem dX2_tryOtherOrder_12 : decode cX2_tryOtherOrder 12 = .ok (.ifCond .eq 33, 3) := by decide +kernel
theorem dX2_tryOtherOrder_15 : decode cX2_tryOtherOrder 15 = .ok (.aload_n 0, 1) := by decide +kernel
theorem dX2_tryOtherOrder_16 : decode cX2_tryOtherOrder 16 = .ok (.iload_n 1, 1) := by decide +kernel
theorem dX2_tryOtherOrder_17 : decode cX2_tryOtherOrder 17 = .ok (.iload_n 2, 1) := by decide +kernel
theorem dX2_tryOtherOrder_18 : decode cX2_tryOtherOrder 18 = .ok (.aload_n 0, 1) := by decide +kernel
theorem dX2_tryOtherOrder_19 : decode cX2_tryOtherOrder 19 = .ok (.getfield 39, 3) := by decide +kernel
theorem dX2_tryOtherOrder_22 : decode cX2_tryOtherOrder 22 = .ok (.iload_n 1, 1) := by decide +kernel
theorem dX2_tryOtherOrder_23 : decode cX2_tryOtherOrder 23 = .ok (.iload_n 2, 1) := by decide +kernel
theorem dX2_tryOtherOrder_24 : decode cX2_tryOtherOrder 24 = .ok (.invokevirtual 128, 3) := by decide +kernel
theorem dX2_tryOtherOrder_27 : decode cX2_tryOtherOrder 27 = .ok (.ifCond .ne 7, 3) := by decide +kernel
theorem dX2_tryOtherOrder_30 : decode cX2_tryOtherOrder 30 = .ok (.iconst 1, 1) := by decide +kernel
theorem dX2_tryOtherOrder_31 : decode cX2_tryOtherOrder 31 = .ok (.goto 4, 3) := by decide +kernel
theorem dX2_tryOtherOrder_34 : decode cX2_tryOtherOrder 34 = .ok (.iconst 0, 1) := by decide +kernel
theorem dX2_tryOtherOrder_35 : decode cX2_tryOtherOrder 35 = .ok (.invokevirtual 172, 3) := by decide +kernel
theorem dX2_tryOtherOrder_38 : decode cX2_tryOtherOrder 38 = .ok (.ifCond .eq 7, 3) := by decide +kernel
theorem dX2_tryOtherOrder_41 : decode cX2_tryOtherOrder 41 = .ok (.iconst 1, 1) := by decide +kernel
theorem dX2_tryOtherOrder_42 : decode cX2_tryOtherOrder 42 = .ok (.goto 4, 3) := by decide +kernel
theorem dX2_tryOtherOrder_45 : decode cX2_tryOtherOrder 45 = .ok (.iconst 0, 1) := by decide +kernel
theorem dX2_tryOtherOrder_46 : decode cX2_tryOtherOrder 46 = .ok (.ireturn, 1) := by decide +kernel
set_option maxRecDepth 20000 in
theorem ggX2_tryPay_X2_faultOfPay : GoodIn wsX2_tryPay wsX2_faultOfPay := goodIn_r _ [5, 6, 7, 8, 9, 4, 10, 11, 17, 18, 19, 20, 21, 22, 23, 24, 25, 26, 27, 28, 29, 30] (by decide +kernel) (by decide +kernel)
set_option maxRecDepth 20000 in
theorem gX2_tryPay_X2_faultOfPay : GoodIn wsX2_tryPay (wsV RX2 176 RX2 yX2_faultOfPay wsX2_faultOfPay) := goodIn_app (goodIn_of _ (by decide +kernel)) ggX2_tryPay_X2_faultOfPay
set_option maxRecDepth 20000 in
theorem ggX2_tryPay_X2_payIn : GoodIn wsX2_tryPay wsX2_payIn := goodIn_r _ [15, 16, 6, 17, 18, 19, 20, 21, 22, 23, 24, 25, 26, 27, 28, 29, 30] (by decide +kernel) (by decide +kernel)
set_option maxRecDepth 20000 in
theorem gX2_tryPay_X2_payIn : GoodIn wsX2_tryPay (wsV RX2 179 RX2 yX2_payIn wsX2_payIn) := goodIn_app (goodIn_of _ (by decide +kernel)) ggX2_tryPay_X2_payIn
theorem dX2_tryPay_0 : decode cX2_tryPay 0 = .ok (.aload_n 0, 1) := by decide +kernel
theorem dX2_tryPay_1 : decode cX2_tryPay 1 = .ok (.iload_n 1, 1) := by decide +kernel
theorem dX2_tryPay_2 : decode cX2_tryPay 2 = .ok (.iload_n 2, 1) := by decide +kernel
theorem dX2_tryPay_3 : decode cX2_tryPay 3 = .ok (.invokevirtual 176, 3) := by decide +kernel
theorem dX2_tryPay_6 : decode cX2_tryPay 6 = .ok (.ifCond .eq 5, 3) := by decide +kernel
theorem dX2_tryPay_9 : decode cX2_tryPay 9 = .ok (.iconst 0, 1) := by decide +kernel
theorem dX2_tryPay_10 : decode cX2_tryPay 10 = .ok (.ireturn, 1) := by decide +kernel
theorem dX2_tryPay_11 : decode cX2_tryPay 11 = .ok (.aload_n 0, 1) := by decide +kernel
theorem dX2_tryPay_12 : decode cX2_tryPay 12 = .ok (.iload_n 1, 1) := by decide +kernel
theorem dX2_tryPay_13 : decode cX2_tryPay 13 = .ok (.iload_n 2, 1) := by decide +kernel
theorem dX2_tryPay_14 : decode cX2_tryPay 14 = .ok (.invokevirtual 179, 3) := by decide +kernel
theorem dX2_tryPay_17 : decode cX2_tryPay 17 = .ok (.pop, 1) := by decide +kernel
theorem dX2_tryPay_18 : decode cX2_tryPay 18 = .ok (.iconst 1, 1) := by decide +kernel
theorem dX2_tryPay_19 : decode cX2_tryPay 19 = .ok (.ireturn, 1) := by decide +kernel
set_option maxRecDepth 20000 in
theorem ggX2_tryShare_X2_faultOfShare : GoodIn wsX2_tryShare wsX2_faultOfShare := goodIn_r _ [5, 6, 7, 8] (by decide +kernel) (by decide +kernel)
set_option maxRecDepth 20000 in
theorem gX2_tryShare_X2_faultOfShare : GoodIn wsX2_tryShare (wsV RX2 182 RX2 yX2_faultOfShare wsX2_faultOfShare) := goodIn_app (goodIn_of _ (by decide +kernel)) ggX2_tryShare_X2_faultOfShare
set_option maxRecDepth 20000 in
theorem ggX2_tryShare_X2_changeSharing : GoodIn wsX2_tryShare wsX2_changeSharing := goodIn_r _ [12, 13, 14, 15, 16, 4, 17, 18, 19, 20, 21, 22, 23, 24, 25, 26, 27, 28, 29, 30, 31, 32, 33, 34] (by decide +kernel) (by decide +kernel)
set_option maxRecDepth 20000 in
theorem gX2_tryShare_X2_changeSharing : GoodIn wsX2_tryShare (wsV RX2 185 RX2 yX2_changeSharing wsX2_changeSharing) := goodIn_app (goodIn_of _ (by decide +kernel)) ggX2_tryShare_X2_changeSharing
theorem dX2_tryShare_0 : decode cX2_tryShare 0 = .ok (.aload_n 0, 1) := by decide +kernel
theorem dX2_tryShare_1 : decode cX2_tryShare 1 = .ok (.iload_n 1, 1) := by decide +kernel
theorem dX2_tryShare_2 : decode cX2_tryShare 2 = .ok (.invokevirtual 182, 3) := by decide +kernel
theorem dX2_tryShare_5 : decode cX2_tryShare 5 = .ok (.ifCond .eq 5, 3) := by decide +kernel
theorem dX2_tryShare_8 : decode cX2_tryShare 8 = .ok (.iconst 0, 1) := by decide +kernel
theorem dX2_tryShare_9 : decode cX2_tryShare 9 = .ok (.ireturn, 1) := by decide +kernel
theorem dX2_tryShare_10 : decode cX2_tryShare 10 = .ok (.aload_n 0, 1) := by decide +kernel
theorem dX2_tryShare_11 : decode cX2_tryShare 11 = .ok (.iload_n 1, 1) := by decide +kernel
theorem dX2_tryShare_12 : decode cX2_tryShare 12 = .ok (.iload_n 2, 1) := by decide +kernel
theorem dX2_tryShare_13 : decode cX2_tryShare 13 = .ok (.invokevirtual 185, 3) := by decide +kernel
theorem dX2_tryShare_16 : decode cX2_tryShare 16 = .ok (.pop, 1) := by decide +kernel
theorem dX2_tryShare_17 : decode cX2_tryShare 17 = .ok (.iconst 1, 1) := by decide +kernel
theorem dX2_tryShare_18 : decode cX2_tryShare 18 = .ok (.ireturn, 1) := by decide +kernel
set_option maxRecDepth 20000 in
theorem ggX2_tryOtherSharing_X5_isFamily : GoodIn wsX2_tryOtherSharing wsX5_isFamily := goodIn_r _ [4] (by decide +kernel) (by decide +kernel)
set_option maxRecDepth 20000 in
theorem gX2_tryOtherSharing_X5_isFamily_n82 : GoodIn wsX2_tryOtherSharing (wsX5_isFamily) := ggX2_tryOtherSharing_X5_isFamily
set_option maxRecDepth 20000 in
theorem ggX2_tryOtherSharing_X2_tryShare : GoodIn wsX2_tryOtherSharing wsX2_tryShare := goodIn_r _ [9, 10, 11, 12, 8, 13, 2, 3, 4, 14, 15, 16, 17, 1, 18, 19, 20, 21, 22, 23, 24, 25, 26, 27, 28, 29, 30, 31, 32, 33, 34, 35, 36, 37, 38] (by decide +kernel) (by decide +kernel)
set_option maxRecDepth 20000 in
theorem gX2_tryOtherSharing_X2_tryShare : GoodIn wsX2_tryOtherSharing (wsV RX2 189 RX2 yX2_tryShare wsX2_tryShare) := goodIn_app (goodIn_of _ (by decide +kernel)) ggX2_tryOtherSharing_X2_tryShare
theorem dX2_tryOtherSharing_0 : decode cX2_tryOtherSharing 0 = .ok (.iload_n 1, 1) := by decide +kernel
theorem dX2_tryOtherSharing_1 : decode cX2_tryOtherSharing 1 = .ok (.invokestatic 82, 3) := by decide +kernel
theorem dX2_tryOtherSharing_4 : decode cX2_tryOtherSharing 4 = .ok (.ifCond .eq 29, 3) := by decide +kernel
theorem dX2_tryOtherSharing_7 : decode cX2_tryOtherSharing 7 = .ok (.aload_n 0, 1) := by decide +kernel
theorem dX2_tryOtherSharing_8 : decode cX2_tryOtherSharing 8 = .ok (.iload_n 1, 1) := by decide +kernel
theorem dX2_tryOtherSharing_9 : decode cX2_tryOtherSharing 9 = .ok (.aload_n 0, 1) := by decide +kernel
theorem dX2_tryOtherSharing_10 : decode cX2_tryOtherSharing 10 = .ok (.getfield 30, 3) := by decide +kernel
theorem dX2_tryOtherSharing_13 : decode cX2_tryOtherSharing 13 = .ok (.iload_n 1, 1) := by decide +kernel
theorem dX2_tryOtherSharing_14 : decode cX2_tryOtherSharing 14 = .ok (.iaload, 1) := by decide +kernel
theorem dX2_tryOtherSharing_15 : decode cX2_tryOtherSharing 15 = .ok (.ifCond .ne 7, 3) := by decide +kernel
theorem dX2_tryOtherSharing_18 : decode cX2_tryOtherSharing 18 = .ok (.iconst 1, 1) := by decide +kernel
theorem dX2_tryOtherSharing_19 : decode cX2_tryOtherSharing 19 = .ok (.goto 4, 3) := by decide +kernel
theorem dX2_tryOtherSharing_22 : decode cX2_tryOtherSharing 22 = .ok (.iconst 0, 1) := by decide +kernel
theorem dX2_tryOtherSharing_23 : decode cX2_tryOtherSharing 23 = .ok (.invokevirtual 189, 3) := by decide +kernel
theorem dX2_tryOtherSharing_26 : decode cX2_tryOtherSharing 26 = .ok (.ifCond .eq 7, 3) := by decide +kernel
theorem dX2_tryOtherSharing_29 : decode cX2_tryOtherSharing 29 = .ok (.iconst 1, 1) := by decide +kernel
theorem dX2_tryOtherSharing_30 : decode cX2_tryOtherSharing 30 = .ok (.goto 4, 3) := by decide +kernel
theorem dX2_tryOtherSharing_33 : decode cX2_tryOtherSharing 33 = .ok (.iconst 0, 1) := by decide +kernel
theorem dX2_tryOtherSharing_34 : decode cX2_tryOtherSharing 34 = .ok (.ireturn, 1) := by decide +kernel
set_option maxRecDepth 20000 in
theorem ggX2_tryEntitle_X2_faultOfEntitle : GoodIn wsX2_tryEntitle wsX2_faultOfEntitle := goodIn_r _ [5, 6, 7, 8, 4, 9, 10, 11, 12, 13, 63, 64, 65, 66, 67, 68, 69, 70, 71, 72, 73, 74, 75, 76] (by decide +kernel) (by decide +kernel)
set_option maxRecDepth 20000 in
theorem gX2_tryEntitle_X2_faultOfEntitle : GoodIn wsX2_tryEntitle (wsV RX2 193 RX2 yX2_faultOfEntitle wsX2_faultOfEntitle) := goodIn_app (goodIn_of _ (by decide +kernel)) ggX2_tryEntitle_X2_faultOfEntitle
set_option maxRecDepth 20000 in
theorem ggX2_tryEntitle_X2_changeEntitlement : GoodIn wsX2_tryEntitle wsX2_changeEntitlement := goodIn_r _ [17, 18, 19, 20, 21, 22, 23, 4, 24, 10, 25, 26, 27, 28, 29, 30, 31, 32, 33, 34, 35, 36, 37, 38, 39, 40, 41, 42, 43, 44, 45, 46, 47, 48, 49, 50, 51, 52, 53, 54, 55, 56, 57, 58, 59, 60, 61, 62, 63, 64, 65, 66, 67, 68, 69, 70, 71, 72, 73, 74, 75, 76, 77, 78, 79] (by decide +kernel) (by decide +kernel)
set_option maxRecDepth 20000 in
theorem gX2_tryEntitle_X2_changeEntitlement : GoodIn wsX2_tryEntitle (wsV RX2 197 RX2 yX2_changeEntitlement wsX2_changeEntitlement) := goodIn_app (goodIn_of _ (by decide +kernel)) ggX2_tryEntitle_X2_changeEntitlement
theorem dX2_tryEntitle_0 : decode cX2_tryEntitle 0 = .ok (.aload_n 0, 1) := by decide +kernel
theorem dX2_tryEntitle_1 : decode cX2_tryEntitle 1 = .ok (.iload_n 1, 1) := by decide +kernel
theorem dX2_tryEntitle_2 : decode cX2_tryEntitle 2 = .ok (.iload_n 2, 1) := by decide +kernel
theorem dX2_tryEntitle_3 : decode cX2_tryEntitle 3 = .ok (.iload_n 3, 1) := by decide +kernel
theorem dX2_tryEntitle_4 : decode cX2_tryEntitle 4 = .ok (.invokevirtual 193, 3) := by decide +kernel
theorem dX2_tryEntitle_7 : decode cX2_tryEntitle 7 = .ok (.ifCond .eq 5, 3) := by decide +kernel
theorem dX2_tryEntitle_10 : decode cX2_tryEntitle 10 = .ok (.iconst 0, 1) := by decide +kernel
theorem dX2_tryEntitle_11 : decode cX2_tryEntitle 11 = .ok (.ireturn, 1) := by decide +kernel
theorem dX2_tryEntitle_12 : decode cX2_tryEntitle 12 = .ok (.aload_n 0, 1) := by decide +kernel
theorem dX2_tryEntitle_13 : decode cX2_tryEntitle 13 = .ok (.iload_n 1, 1) := by decide +kernel
theorem dX2_tryEntitle_14 : decode cX2_tryEntitle 14 = .ok (.iload_n 2, 1) := by decide +kernel
theorem dX2_tryEntitle_15 : decode cX2_tryEntitle 15 = .ok (.iload_n 3, 1) := by decide +kernel
theorem dX2_tryEntitle_16 : decode cX2_tryEntitle 16 = .ok (.invokevirtual 197, 3) := by decide +kernel
theorem dX2_tryEntitle_19 : decode cX2_tryEntitle 19 = .ok (.pop, 1) := by decide +kernel
theorem dX2_tryEntitle_20 : decode cX2_tryEntitle 20 = .ok (.iconst 1, 1) := by decide +kernel
theorem dX2_tryEntitle_21 : decode cX2_tryEntitle 21 = .ok (.ireturn, 1) := by decide +kernel
set_option maxRecDepth 20000 in
theorem ggX2_tryWriteOff_X2_faultOfWriteOff : GoodIn wsX2_tryWriteOff wsX2_faultOfWriteOff := goodIn_r _ [5, 6, 7, 8, 9, 10, 11, 4, 12, 13, 14, 15, 21, 22, 23, 24, 25, 26, 27, 28, 29, 30, 31, 32, 33, 34] (by decide +kernel) (by decide +kernel)
set_option maxRecDepth 20000 in
theorem gX2_tryWriteOff_X2_faultOfWriteOff : GoodIn wsX2_tryWriteOff (wsV RX2 200 RX2 yX2_faultOfWriteOff wsX2_faultOfWriteOff) := goodIn_app (goodIn_of _ (by decide +kernel)) ggX2_tryWriteOff_X2_faultOfWriteOff
set_option maxRecDepth 20000 in
theorem ggX2_tryWriteOff_X2_writeDebtOff : GoodIn wsX2_tryWriteOff wsX2_writeDebtOff := goodIn_r _ [19, 13, 14, 15, 20, 9, 10, 11, 4, 12, 21, 22, 23, 24, 25, 26, 27, 28, 29, 30, 31, 32, 33, 34] (by decide +kernel) (by decide +kernel)
set_option maxRecDepth 20000 in
theorem gX2_tryWriteOff_X2_writeDebtOff : GoodIn wsX2_tryWriteOff (wsV RX2 203 RX2 yX2_writeDebtOff wsX2_writeDebtOff) := goodIn_app (goodIn_of _ (by decide +kernel)) ggX2_tryWriteOff_X2_writeDebtOff
theorem dX2_tryWriteOff_0 : decode cX2_tryWriteOff 0 = .ok (.aload_n 0, 1) := by decide +kernel
theorem dX2_tryWriteOff_1 : decode cX2_tryWriteOff 1 = .ok (.iload_n 1, 1) := by decide +kernel
theorem dX2_tryWriteOff_2 : decode cX2_tryWriteOff 2 = .ok (.invokevirtual 200, 3) := by decide +kernel
theorem dX2_tryWriteOff_5 : decode cX2_tryWriteOff 5 = .ok (.ifCond .eq 5, 3) := by decide +kernel
theorem dX2_tryWriteOff_8 : decode cX2_tryWriteOff 8 = .ok (.iconst 0, 1) := by decide +kernel
theorem dX2_tryWriteOff_9 : decode cX2_tryWriteOff 9 = .ok (.ireturn, 1) := by decide +kernel
theorem dX2_tryWriteOff_10 : decode cX2_tryWriteOff 10 = .ok (.aload_n 0, 1) := by decide +kernel
theorem dX2_tryWriteOff_11 : decode cX2_tryWriteOff 11 = .ok (.iload_n 1, 1) := by decide +kernel
theorem dX2_tryWriteOff_12 : decode cX2_tryWriteOff 12 = .ok (.invokevirtual 203, 3) := by decide +kernel
theorem dX2_tryWriteOff_15 : decode cX2_tryWriteOff 15 = .ok (.pop, 1) := by decide +kernel
theorem dX2_tryWriteOff_16 : decode cX2_tryWriteOff 16 = .ok (.iconst 1, 1) := by decide +kernel
theorem dX2_tryWriteOff_17 : decode cX2_tryWriteOff 17 = .ok (.ireturn, 1) := by decide +kernel
set_option maxRecDepth 20000 in
theorem ggX2_tryDays_X2_faultOfDays : GoodIn wsX2_tryDays wsX2_faultOfDays := goodIn_r _ [5, 6, 7, 8, 4, 9, 10, 69, 70, 71, 72, 73, 74, 75, 76, 77, 78, 79, 80, 81, 82] (by decide +kernel) (by decide +kernel)
set_option maxRecDepth 20000 in
theorem gX2_tryDays_X2_faultOfDays : GoodIn wsX2_tryDays (wsV RX2 206 RX2 yX2_faultOfDays wsX2_faultOfDays) := goodIn_app (goodIn_of _ (by decide +kernel)) ggX2_tryDays_X2_faultOfDays
set_option maxRecDepth 20000 in
theorem ggX2_tryDays_X2_passDays : GoodIn wsX2_tryDays wsX2_passDays := goodIn_r _ [14, 10, 15, 16, 17, 18, 19, 20, 21, 22, 23, 24, 25, 26, 27, 28, 4, 29, 30, 31, 32, 33, 34, 35, 36, 37, 38, 39, 40, 41, 42, 43, 44, 45, 46, 47, 48, 49, 50, 51, 52, 53, 54, 55, 56, 57, 58, 59, 60, 61, 62, 63, 64, 65, 66, 67, 68, 69, 70, 71, 72, 73, 74, 75, 76, 77, 78, 79, 80, 81, 82, 83, 84, 85] (by decide +kernel) (by decide +kernel)
set_option maxRecDepth 20000 in
theorem gX2_tryDays_X2_passDays : GoodIn wsX2_tryDays (wsV RX2 209 RX2 yX2_passDays wsX2_passDays) := goodIn_app (goodIn_of _ (by decide +kernel)) ggX2_tryDays_X2_passDays
theorem dX2_tryDays_0 : decode cX2_tryDays 0 = .ok (.aload_n 0, 1) := by decide +kernel
theorem dX2_tryDays_1 : decode cX2_tryDays 1 = .ok (.iload_n 1, 1) := by decide +kernel
theorem dX2_tryDays_2 : decode cX2_tryDays 2 = .ok (.invokevirtual 206, 3) := by decide +kernel
theorem dX2_tryDays_5 : decode cX2_tryDays 5 = .ok (.ifCond .eq 5, 3) := by decide +kernel
theorem dX2_tryDays_8 : decode cX2_tryDays 8 = .ok (.iconst 0, 1) := by decide +kernel
theorem dX2_tryDays_9 : decode cX2_tryDays 9 = .ok (.ireturn, 1) := by decide +kernel
theorem dX2_tryDays_10 : decode cX2_tryDays 10 = .ok (.aload_n 0, 1) := by decide +kernel
theorem dX2_tryDays_11 : decode cX2_tryDays 11 = .ok (.iload_n 1, 1) := by decide +kernel
theorem dX2_tryDays_12 : decode cX2_tryDays 12 = .ok (.invokevirtual 209, 3) := by decide +kernel
theorem dX2_tryDays_15 : decode cX2_tryDays 15 = .ok (.pop, 1) := by decide +kernel
theorem dX2_tryDays_16 : decode cX2_tryDays 16 = .ok (.iconst 1, 1) := by decide +kernel
theorem dX2_tryDays_17 : decode cX2_tryDays 17 = .ok (.ireturn, 1) := by decide +kernel
theorem dX3_init_0 : decode cX3_init 0 = .ok (.aload_n 0, 1) := by decide +kernel
theorem dX3_init_1 : decode cX3_init 1 = .ok (.invokespecial 3, 3) := by decide +kernel
theorem dX3_init_4 : decode cX3_init 4 = .ok (.aload_n 0, 1) := by decide +kernel
theorem dX3_init_5 : decode cX3_init 5 = .ok (.sipush 480, 3) := by decide +kernel
theorem dX3_init_8 : decode cX3_init 8 = .ok (.newarray .int, 2) := by decide +kernel
theorem dX3_init_10 : decode cX3_init 10 = .ok (.putfield 11, 3) := by decide +kernel
theorem dX3_init_13 : decode cX3_init 13 = .ok (.aload_n 0, 1) := by decide +kernel
theorem dX3_init_14 : decode cX3_init 14 = .ok (.sipush 480, 3) := by decide +kernel
theorem dX3_init_17 : decode cX3_init 17 = .ok (.newarray .int, 2) := by decide +kernel
theorem dX3_init_19 : decode cX3_init 19 = .ok (.putfield 15, 3) := by decide +kernel
theorem dX3_init_22 : decode cX3_init 22 = .ok (.aload_n 0, 1) := by decide +kernel
theorem dX3_init_23 : decode cX3_init 23 = .ok (.sipush 480, 3) := by decide +kernel
theorem dX3_init_26 : decode cX3_init 26 = .ok (.newarray .int, 2) := by decide +kernel
theorem dX3_init_28 : decode cX3_init 28 = .ok (.putfield 18, 3) := by decide +kernel
theorem dX3_init_31 : decode cX3_init 31 = .ok (.return_, 1) := by decide +kernel
set_option maxRecDepth 20000 in
theorem ggX3_clear_J7_fill_53178 : GoodIn wsX3_clear wsJ7_fill_53178 := goodIn_r _ [5] (by decide +kernel) (by decide +kernel)
set_option maxRecDepth 20000 in
theorem gX3_clear_J7_fill_53178 : GoodIn wsX3_clear (va_wsS RX3 21 yJ7_fill_53178 wsJ7_fill_53178) := goodIn_app (goodIn_of _ (by decide +kernel)) ggX3_clear_J7_fill_53178
theorem dX3_clear_0 : decode cX3_clear 0 = .ok (.aload_n 0, 1) := by decide +kernel
theorem dX3_clear_1 : decode cX3_clear 1 = .ok (.getfield 11, 3) := by decide +kernel
theorem dX3_clear_4 : decode cX3_clear 4 = .ok (.iconst 0, 1) := by decide +kernel
theorem dX3_clear_5 : decode cX3_clear 5 = .ok (.invokestatic 21, 3) := by decide +kernel
theorem dX3_clear_8 : decode cX3_clear 8 = .ok (.return_, 1) := by decide +kernel
theorem dX3_copyFrom_0 : decode cX3_copyFrom 0 = .ok (.aload_n 1, 1) := by decide +kernel
theorem dX3_copyFrom_1 : decode cX3_copyFrom 1 = .ok (.getfield 11, 3) := by decide +kernel
theorem dX3_copyFrom_4 : decode cX3_copyFrom 4 = .ok (.iconst 0, 1) := by decide +kernel
theorem dX3_copyFrom_5 : decode cX3_copyFrom 5 = .ok (.aload_n 0, 1) := by decide +kernel
theorem dX3_copyFrom_6 : decode cX3_copyFrom 6 = .ok (.getfield 11, 3) := by decide +kernel
theorem dX3_copyFrom_9 : decode cX3_copyFrom 9 = .ok (.iconst 0, 1) := by decide +kernel
theorem dX3_copyFrom_10 : decode cX3_copyFrom 10 = .ok (.sipush 480, 3) := by decide +kernel
theorem dX3_copyFrom_13 : decode cX3_copyFrom 13 = .ok (.invokestatic 27, 3) := by decide +kernel
theorem dX3_copyFrom_16 : decode cX3_copyFrom 16 = .ok (.aload_n 1, 1) := by decide +kernel
theorem dX3_copyFrom_17 : decode cX3_copyFrom 17 = .ok (.getfield 15, 3) := by decide +kernel
theorem dX3_copyFrom_20 : decode cX3_copyFrom 20 = .ok (.iconst 0, 1) := by decide +kernel
theorem dX3_copyFrom_21 : decode cX3_copyFrom 21 = .ok (.aload_n 0, 1) := by decide +kernel
theorem dX3_copyFrom_22 : decode cX3_copyFrom 22 = .ok (.getfield 15, 3) := by decide +kernel
theorem dX3_copyFrom_25 : decode cX3_copyFrom 25 = .ok (.iconst 0, 1) := by decide +kernel
theorem dX3_copyFrom_26 : decode cX3_copyFrom 26 = .ok (.sipush 480, 3) := by decide +kernel
theorem dX3_copyFrom_29 : decode cX3_copyFrom 29 = .ok (.invokestatic 27, 3) := by decide +kernel
theorem dX3_copyFrom_32 : decode cX3_copyFrom 32 = .ok (.aload_n 1, 1) := by decide +kernel
theorem dX3_copyFrom_33 : decode cX3_copyFrom 33 = .ok (.getfield 18, 3) := by decide +kernel
theorem dX3_copyFrom_36 : decode cX3_copyFrom 36 = .ok (.iconst 0, 1) := by decide +kernel
theorem dX3_copyFrom_37 : decode cX3_copyFrom 37 = .ok (.aload_n 0, 1) := by decide +kernel
theorem dX3_copyFrom_38 : decode cX3_copyFrom 38 = .ok (.getfield 18, 3) := by decide +kernel
theorem dX3_copyFrom_41 : decode cX3_copyFrom 41 = .ok (.iconst 0, 1) := by decide +kernel
theorem dX3_copyFrom_42 : decode cX3_copyFrom 42 = .ok (.sipush 480, 3) := by decide +kernel
theorem dX3_copyFrom_45 : decode cX3_copyFrom 45 = .ok (.invokestatic 27, 3) := by decide +kernel
theorem dX3_copyFrom_48 : decode cX3_copyFrom 48 = .ok (.return_, 1) := by decide +kernel
theorem dX3_place_0 : decode cX3_place 0 = .ok (.iload_n 0, 1) := by decide +kernel
theorem dX3_place_1 : decode cX3_place 1 = .ok (.bipush 40, 2) := by decide +kernel
theorem dX3_place_3 : decode cX3_place 3 = .ok (.imul, 1) := by decide +kernel
theorem dX3_place_4 : decode cX3_place 4 = .ok (.iload_n 1, 1) := by decide +kernel
theorem dX3_place_5 : decode cX3_place 5 = .ok (.iadd, 1) := by decide +kernel
theorem dX3_place_6 : decode cX3_place 6 = .ok (.ireturn, 1) := by decide +kernel
set_option maxRecDepth 20000 in
theorem ggX3_put_X3_place : GoodIn wsX3_put wsX3_place := goodIn_r _ [5] (by decide +kernel) (by decide +kernel)
set_option maxRecDepth 20000 in
theorem gX3_put_X3_place : GoodIn wsX3_put (va_wsS RX3 33 yX3_place wsX3_place) := goodIn_app (goodIn_of _ (by decide +kernel)) ggX3_put_X3_place
theorem dX3_put_0 : decode cX3_put 0 = .ok (.aload_n 0, 1) := by decide +kernel
theorem dX3_put_1 : decode cX3_put 1 = .ok (.getfield 11, 3) := by decide +kernel
theorem dX3_put_4 : decode cX3_put 4 = .ok (.iload_n 1, 1) := by decide +kernel
theorem dX3_put_5 : decode cX3_put 5 = .ok (.iload_n 2, 1) := by decide +kernel
theorem dX3_put_6 : decode cX3_put 6 = .ok (.invokestatic 33, 3) := by decide +kernel
theorem dX3_put_9 : decode cX3_put 9 = .ok (.iload_n 3, 1) := by decide +kernel
theorem dX3_put_10 : decode cX3_put 10 = .ok (.iastore, 1) := by decide +kernel
theorem dX3_put_11 : decode cX3_put 11 = .ok (.return_, 1) := by decide +kernel
set_option maxRecDepth 20000 in
theorem ggX3_putCharged_X3_place : GoodIn wsX3_putCharged wsX3_place := goodIn_r _ [7] (by decide +kernel) (by decide +kernel)
set_option maxRecDepth 20000 in
theorem gX3_putCharged_X3_place : GoodIn wsX3_putCharged (va_wsS RX3 33 yX3_place wsX3_place) := goodIn_app (goodIn_of _ (by decide +kernel)) ggX3_putCharged_X3_place
theorem dX3_putCharged_0 : decode cX3_putCharged 0 = .ok (.iload_n 1, 1) := by decide +kernel
theorem dX3_putCharged_1 : decode cX3_putCharged 1 = .ok (.iload_n 2, 1) := by decide +kernel
theorem dX3_putCharged_2 : decode cX3_putCharged 2 = .ok (.invokestatic 33, 3) := by decide +kernel
theorem dX3_putCharged_5 : decode cX3_putCharged 5 = .ok (.istore 5, 2) := by decide +kernel
theorem dX3_putCharged_7 : decode cX3_putCharged 7 = .ok (.aload_n 0, 1) := by decide +kernel
theorem dX3_putCharged_8 : decode cX3_putCharged 8 = .ok (.getfield 11, 3) := by decide +kernel
theorem dX3_putCharged_11 : decode cX3_putCharged 11 = .ok (.iload 5, 2) := by decide +kernel
theorem dX3_putCharged_13 : decode cX3_putCharged 13 = .ok (.iconst 2, 1) := by decide +kernel
theorem dX3_putCharged_14 : decode cX3_putCharged 14 = .ok (.iastore, 1) := by decide +kernel
theorem dX3_putCharged_15 : decode cX3_putCharged 15 = .ok (.aload_n 0, 1) := by decide +kernel
theorem dX3_putCharged_16 : decode cX3_putCharged 16 = .ok (.getfield 15, 3) := by decide +kernel
theorem dX3_putCharged_19 : decode cX3_putCharged 19 = .ok (.iload 5, 2) := by decide +kernel
theorem dX3_putCharged_21 : decode cX3_putCharged 21 = .ok (.iload_n 3, 1) := by decide +kernel
theorem dX3_putCharged_22 : decode cX3_putCharged 22 = .ok (.iastore, 1) := by decide +kernel
theorem dX3_putCharged_23 : decode cX3_putCharged 23 = .ok (.aload_n 0, 1) := by decide +kernel
theorem dX3_putCharged_24 : decode cX3_putCharged 24 = .ok (.getfield 18, 3) := by decide +kernel
theorem dX3_putCharged_27 : decode cX3_putCharged 27 = .ok (.iload 5, 2) := by decide +kernel
theorem dX3_putCharged_29 : decode cX3_putCharged 29 = .ok (.iload 4, 2) := by decide +kernel
theorem dX3_putCharged_31 : decode cX3_putCharged 31 = .ok (.iastore, 1) := by decide +kernel
theorem dX3_putCharged_32 : decode cX3_putCharged 32 = .ok (.return_, 1) := by decide +kernel
set_option maxRecDepth 20000 in
theorem ggX3_kindOf_X3_place : GoodIn wsX3_kindOf wsX3_place := goodIn_r _ [5] (by decide +kernel) (by decide +kernel)
set_option maxRecDepth 20000 in
theorem gX3_kindOf_X3_place : GoodIn wsX3_kindOf (va_wsS RX3 33 yX3_place wsX3_place) := goodIn_app (goodIn_of _ (by decide +kernel)) ggX3_kindOf_X3_place
theorem dX3_kindOf_0 : decode cX3_kindOf 0 = .ok (.aload_n 0, 1) := by decide +kernel
theorem dX3_kindOf_1 : decode cX3_kindOf 1 = .ok (.getfield 11, 3) := by decide +kernel
theorem dX3_kindOf_4 : decode cX3_kindOf 4 = .ok (.iload_n 1, 1) := by decide +kernel
theorem dX3_kindOf_5 : decode cX3_kindOf 5 = .ok (.iload_n 2, 1) := by decide +kernel
theorem dX3_kindOf_6 : decode cX3_kindOf 6 = .ok (.invokestatic 33, 3) := by decide +kernel
theorem dX3_kindOf_9 : decode cX3_kindOf 9 = .ok (.iaload, 1) := by decide +kernel
theorem dX3_kindOf_10 : decode cX3_kindOf 10 = .ok (.ireturn, 1) := by decide +kernel
set_option maxRecDepth 20000 in
theorem ggX3_chargeOf_X3_place : GoodIn wsX3_chargeOf wsX3_place := goodIn_r _ [6] (by decide +kernel) (by decide +kernel)
set_option maxRecDepth 20000 in
theorem gX3_chargeOf_X3_place : GoodIn wsX3_chargeOf (va_wsS RX3 33 yX3_place wsX3_place) := goodIn_app (goodIn_of _ (by decide +kernel)) ggX3_chargeOf_X3_place
theorem dX3_chargeOf_0 : decode cX3_chargeOf 0 = .ok (.iload_n 1, 1) := by decide +kernel
theorem dX3_chargeOf_1 : decode cX3_chargeOf 1 = .ok (.iload_n 2, 1) := by decide +kernel
theorem dX3_chargeOf_2 : decode cX3_chargeOf 2 = .ok (.invokestatic 33, 3) := by decide +kernel
theorem dX3_chargeOf_5 : decode cX3_chargeOf 5 = .ok (.istore_n 3, 1) := by decide +kernel
theorem dX3_chargeOf_6 : decode cX3_chargeOf 6 = .ok (.aload_n 0, 1) := by decide +kernel
theorem dX3_chargeOf_7 : decode cX3_chargeOf 7 = .ok (.getfield 11, 3) := by decide +kernel
theorem dX3_chargeOf_10 : decode cX3_chargeOf 10 = .ok (.iload_n 3, 1) := by decide +kernel
theorem dX3_chargeOf_11 : decode cX3_chargeOf 11 = .ok (.iaload, 1) := by decide +kernel
theorem dX3_chargeOf_12 : decode cX3_chargeOf 12 = .ok (.iconst 2, 1) := by decide +kernel
theorem dX3_chargeOf_13 : decode cX3_chargeOf 13 = .ok (.if_icmp .ne 10, 3) := by decide +kernel
theorem dX3_chargeOf_16 : decode cX3_chargeOf 16 = .ok (.aload_n 0, 1) := by decide +kernel
theorem dX3_chargeOf_17 : decode cX3_chargeOf 17 = .ok (.getfield 15, 3) := by decide +kernel
theorem dX3_chargeOf_20 : decode cX3_chargeOf 20 = .ok (.iload_n 3, 1) := by decide +kernel
theorem dX3_chargeOf_21 : decode cX3_chargeOf 21 = .ok (.iaload, 1) := by decide +kernel
theorem dX3_chargeOf_22 : decode cX3_chargeOf 22 = .ok (.ireturn, 1) := by decide +kernel
theorem dX3_chargeOf_23 : decode cX3_chargeOf 23 = .ok (.aload_n 0, 1) := by decide +kernel
theorem dX3_chargeOf_24 : decode cX3_chargeOf 24 = .ok (.getfield 11, 3) := by decide +kernel
theorem dX3_chargeOf_27 : decode cX3_chargeOf 27 = .ok (.iload_n 3, 1) := by decide +kernel
theorem dX3_chargeOf_28 : decode cX3_chargeOf 28 = .ok (.iaload, 1) := by decide +kernel
theorem dX3_chargeOf_29 : decode cX3_chargeOf 29 = .ok (.iconst 3, 1) := by decide +kernel
theorem dX3_chargeOf_30 : decode cX3_chargeOf 30 = .ok (.if_icmp .ne 7, 3) := by decide +kernel
theorem dX3_chargeOf_33 : decode cX3_chargeOf 33 = .ok (.iconst 0, 1) := by decide +kernel
theorem dX3_chargeOf_34 : decode cX3_chargeOf 34 = .ok (.goto 4, 3) := by decide +kernel
theorem dX3_chargeOf_37 : decode cX3_chargeOf 37 = .ok (.iconst (-1), 1) := by decide +kernel
theorem dX3_chargeOf_38 : decode cX3_chargeOf 38 = .ok (.ireturn, 1) := by decide +kernel
set_option maxRecDepth 20000 in
theorem ggX3_payerOf_X3_place : GoodIn wsX3_payerOf wsX3_place := goodIn_r _ [6] (by decide +kernel) (by decide +kernel)
set_option maxRecDepth 20000 in
theorem gX3_payerOf_X3_place : GoodIn wsX3_payerOf (va_wsS RX3 33 yX3_place wsX3_place) := goodIn_app (goodIn_of _ (by decide +kernel)) ggX3_payerOf_X3_place
theorem dX3_payerOf_0 : decode cX3_payerOf 0 = .ok (.iload_n 1, 1) := by decide +kernel
theorem dX3_payerOf_1 : decode cX3_payerOf 1 = .ok (.iload_n 2, 1) := by decide +kernel
theorem dX3_payerOf_2 : decode cX3_payerOf 2 = .ok (.invokestatic 33, 3) := by decide +kernel
theorem dX3_payerOf_5 : decode cX3_payerOf 5 = .ok (.istore_n 3, 1) := by decide +kernel
theorem dX3_payerOf_6 : decode cX3_payerOf 6 = .ok (.aload_n 0, 1) := by decide +kernel
theorem dX3_payerOf_7 : decode cX3_payerOf 7 = .ok (.getfield 11, 3) := by decide +kernel
theorem dX3_payerOf_10 : decode cX3_payerOf 10 = .ok (.iload_n 3, 1) := by decide +kernel
theorem dX3_payerOf_11 : decode cX3_payerOf 11 = .ok (.iaload, 1) := by decide +kernel
theorem dX3_payerOf_12 : decode cX3_payerOf 12 = .ok (.iconst 2, 1) := by decide +kernel
theorem dX3_payerOf_13 : decode cX3_payerOf 13 = .ok (.if_icmp .ne 12, 3) := by decide +kernel
theorem dX3_payerOf_16 : decode cX3_payerOf 16 = .ok (.aload_n 0, 1) := by decide +kernel
theorem dX3_payerOf_17 : decode cX3_payerOf 17 = .ok (.getfield 18, 3) := by decide +kernel
theorem dX3_payerOf_20 : decode cX3_payerOf 20 = .ok (.iload_n 3, 1) := by decide +kernel
theorem dX3_payerOf_21 : decode cX3_payerOf 21 = .ok (.iaload, 1) := by decide +kernel
theorem dX3_payerOf_22 : decode cX3_payerOf 22 = .ok (.goto 4, 3) := by decide +kernel
theorem dX3_payerOf_25 : decode cX3_payerOf 25 = .ok (.iconst (-1), 1) := by decide +kernel
theorem dX3_payerOf_26 : decode cX3_payerOf 26 = .ok (.ireturn, 1) := by decide +kernel
theorem dX3_countAll_0 : decode cX3_countAll 0 = .ok (.iconst 0, 1) := by decide +kernel
theorem dX3_countAll_1 : decode cX3_countAll 1 = .ok (.istore_n 2, 1) := by decide +kernel
theorem dX3_countAll_2 : decode cX3_countAll 2 = .ok (.iconst 0, 1) := by decide +kernel
theorem dX3_countAll_3 : decode cX3_countAll 3 = .ok (.istore_n 3, 1) := by decide +kernel
theorem dX3_countAll_4 : decode cX3_countAll 4 = .ok (.iload_n 3, 1) := by decide +kernel
theorem dX3_countAll_5 : decode cX3_countAll 5 = .ok (.sipush 480, 3) := by decide +kernel
theorem dX3_countAll_8 : decode cX3_countAll 8 = .ok (.if_icmp .ge 22, 3) := by decide +kernel
theorem dX3_countAll_11 : decode cX3_countAll 11 = .ok (.aload_n 0, 1) := by decide +kernel
theorem dX3_countAll_12 : decode cX3_countAll 12 = .ok (.getfield 11, 3) := by decide +kernel
theorem dX3_countAll_15 : decode cX3_countAll 15 = .ok (.iload_n 3, 1) := by decide +kernel
theorem dX3_countAll_16 : decode cX3_countAll 16 = .ok (.iaload, 1) := by decide +kernel
theorem dX3_countAll_17 : decode cX3_countAll 17 = .ok (.iload_n 1, 1) := by decide +kernel
theorem dX3_countAll_18 : decode cX3_countAll 18 = .ok (.if_icmp .ne 6, 3) := by decide +kernel
theorem dX3_countAll_21 : decode cX3_countAll 21 = .ok (.iinc 2 1, 3) := by decide +kernel
theorem dX3_countAll_24 : decode cX3_countAll 24 = .ok (.iinc 3 1, 3) := by decide +kernel
theorem dX3_countAll_27 : decode cX3_countAll 27 = .ok (.goto (-23), 3) := by decide +kernel
theorem dX3_countAll_30 : decode cX3_countAll 30 = .ok (.iload_n 2, 1) := by decide +kernel
theorem dX3_countAll_31 : decode cX3_countAll 31 = .ok (.ireturn, 1) := by decide +kernel
set_option maxRecDepth 20000 in
theorem ggX3_countServed_X3_countAll : GoodIn wsX3_countServed wsX3_countAll := goodIn_r _ [5, 6, 7, 8, 9] (by decide +kernel) (by decide +kernel)
set_option maxRecDepth 20000 in
theorem gX3_countServed_X3_countAll : GoodIn wsX3_countServed (wsV RX3 37 RX3 yX3_countAll wsX3_countAll) := goodIn_app (goodIn_of _ (by decide +kernel)) ggX3_countServed_X3_countAll
theorem dX3_countServed_0 : decode cX3_countServed 0 = .ok (.aload_n 0, 1) := by decide +kernel
theorem dX3_countServed_1 : decode cX3_countServed 1 = .ok (.iconst 2, 1) := by decide +kernel
theorem dX3_countServed_2 : decode cX3_countServed 2 = .ok (.invokevirtual 37, 3) := by decide +kernel
theorem dX3_countServed_5 : decode cX3_countServed 5 = .ok (.aload_n 0, 1) := by decide +kernel
theorem dX3_countServed_6 : decode cX3_countServed 6 = .ok (.iconst 3, 1) := by decide +kernel
theorem dX3_countServed_7 : decode cX3_countServed 7 = .ok (.invokevirtual 37, 3) := by decide +kernel
theorem dX3_countServed_10 : decode cX3_countServed 10 = .ok (.iadd, 1) := by decide +kernel
theorem dX3_countServed_11 : decode cX3_countServed 11 = .ok (.ireturn, 1) := by decide +kernel
set_option maxRecDepth 20000 in
theorem ggX3_countSince_X3_countOn : GoodIn wsX3_countSince wsX3_countOn := goodIn_r _ [5, 6, 7, 8, 4, 9, 10, 11, 12, 13, 14, 15, 16] (by decide +kernel) (by decide +kernel)
set_option maxRecDepth 20000 in
theorem gX3_countSince_X3_countOn : GoodIn wsX3_countSince (wsV RX3 41 RX3 yX3_countOn wsX3_countOn) := goodIn_app (goodIn_of _ (by decide +kernel)) ggX3_countSince_X3_countOn
theorem dX3_countSince_0 : decode cX3_countSince 0 = .ok (.iconst 0, 1) := by decide +kernel
theorem dX3_countSince_1 : decode cX3_countSince 1 = .ok (.istore_n 3, 1) := by decide +kernel
theorem dX3_countSince_2 : decode cX3_countSince 2 = .ok (.iload_n 1, 1) := by decide +kernel
theorem dX3_countSince_3 : decode cX3_countSince 3 = .ok (.istore 4, 2) := by decide +kernel
theorem dX3_countSince_5 : decode cX3_countSince 5 = .ok (.iload 4, 2) := by decide +kernel
theorem dX3_countSince_7 : decode cX3_countSince 7 = .ok (.bipush 40, 2) := by decide +kernel
theorem dX3_countSince_9 : decode cX3_countSince 9 = .ok (.if_icmp .ge 19, 3) := by decide +kernel
theorem dX3_countSince_12 : decode cX3_countSince 12 = .ok (.iload_n 3, 1) := by decide +kernel
theorem dX3_countSince_13 : decode cX3_countSince 13 = .ok (.aload_n 0, 1) := by decide +kernel
theorem dX3_countSince_14 : decode cX3_countSince 14 = .ok (.iload 4, 2) := by decide +kernel
theorem dX3_countSince_16 : decode cX3_countSince 16 = .ok (.iload_n 2, 1) := by decide +kernel
theorem dX3_countSince_17 : decode cX3_countSince 17 = .ok (.invokevirtual 41, 3) := by decide +kernel
theorem dX3_countSince_20 : decode cX3_countSince 20 = .ok (.iadd, 1) := by decide +kernel
theorem dX3_countSince_21 : decode cX3_countSince 21 = .ok (.istore_n 3, 1) := by decide +kernel
theorem dX3_countSince_22 : decode cX3_countSince 22 = .ok (.iinc 4 1, 3) := by decide +kernel
theorem dX3_countSince_25 : decode cX3_countSince 25 = .ok (.goto (-20), 3) := by decide +kernel
theorem dX3_countSince_28 : decode cX3_countSince 28 = .ok (.iload_n 3, 1) := by decide +kernel
theorem dX3_countSince_29 : decode cX3_countSince 29 = .ok (.ireturn, 1) := by decide +kernel
set_option maxRecDepth 20000 in
theorem ggX3_countOn_X3_kindOf : GoodIn wsX3_countOn wsX3_kindOf := goodIn_r _ [5, 6, 7, 8, 4, 9, 10, 11, 12] (by decide +kernel) (by decide +kernel)
set_option maxRecDepth 20000 in
theorem gX3_countOn_X3_kindOf : GoodIn wsX3_countOn (wsV RX3 44 RX3 yX3_kindOf wsX3_kindOf) := goodIn_app (goodIn_of _ (by decide +kernel)) ggX3_countOn_X3_kindOf
theorem dX3_countOn_0 : decode cX3_countOn 0 = .ok (.iconst 0, 1) := by decide +kernel
theorem dX3_countOn_1 : decode cX3_countOn 1 = .ok (.istore_n 3, 1) := by decide +kernel
theorem dX3_countOn_2 : decode cX3_countOn 2 = .ok (.iconst 0, 1) := by decide +kernel
theorem dX3_countOn_3 : decode cX3_countOn 3 = .ok (.istore 4, 2) := by decide +kernel
theorem dX3_countOn_5 : decode cX3_countOn 5 = .ok (.iload 4, 2) := by decide +kernel
theorem dX3_countOn_7 : decode cX3_countOn 7 = .ok (.bipush 12, 2) := by decide +kernel
theorem dX3_countOn_9 : decode cX3_countOn 9 = .ok (.if_icmp .ge 23, 3) := by decide +kernel
theorem dX3_countOn_12 : decode cX3_countOn 12 = .ok (.aload_n 0, 1) := by decide +kernel
theorem dX3_countOn_13 : decode cX3_countOn 13 = .ok (.iload 4, 2) := by decide +kernel
theorem dX3_countOn_15 : decode cX3_countOn 15 = .ok (.iload_n 1, 1) := by decide +kernel
theorem dX3_countOn_16 : decode cX3_countOn 16 = .ok (.invokevirtual 44, 3) := by decide +kernel
theorem dX3_countOn_19 : decode cX3_countOn 19 = .ok (.iload_n 2, 1) := by decide +kernel
theorem dX3_countOn_20 : decode cX3_countOn 20 = .ok (.if_icmp .ne 6, 3) := by decide +kernel
theorem dX3_countOn_23 : decode cX3_countOn 23 = .ok (.iinc 3 1, 3) := by decide +kernel
theorem dX3_countOn_26 : decode cX3_countOn 26 = .ok (.iinc 4 1, 3) := by decide +kernel
theorem dX3_countOn_29 : decode cX3_countOn 29 = .ok (.goto (-24), 3) := by decide +kernel
theorem dX3_countOn_32 : decode cX3_countOn 32 = .ok (.iload_n 3, 1) := by decide +kernel
theorem dX3_countOn_33 : decode cX3_countOn 33 = .ok (.ireturn, 1) := by decide +kernel
set_option maxRecDepth 20000 in
theorem ggX3_countOrderedOn_X3_countOn : GoodIn wsX3_countOrderedOn wsX3_countOn := goodIn_r _ [5, 6, 7, 8, 4, 9, 10, 11, 12, 13, 14, 15, 16] (by decide +kernel) (by decide +kernel)
set_option maxRecDepth 20000 in
theorem gX3_countOrderedOn_X3_countOn : GoodIn wsX3_countOrderedOn (wsV RX3 41 RX3 yX3_countOn wsX3_countOn) := goodIn_app (goodIn_of _ (by decide +kernel)) ggX3_countOrderedOn_X3_countOn
theorem dX3_countOrderedOn_0 : decode cX3_countOrderedOn 0 = .ok (.bipush 12, 2) := by decide +kernel
theorem dX3_countOrderedOn_2 : decode cX3_countOrderedOn 2 = .ok (.aload_n 0, 1) := by decide +kernel
theorem dX3_countOrderedOn_3 : decode cX3_countOrderedOn 3 = .ok (.iload_n 1, 1) := by decide +kernel
theorem dX3_countOrderedOn_4 : decode cX3_countOrderedOn 4 = .ok (.iconst 0, 1) := by decide +kernel
theorem dX3_countOrderedOn_5 : decode cX3_countOrderedOn 5 = .ok (.invokevirtual 41, 3) := by decide +kernel
theorem dX3_countOrderedOn_8 : decode cX3_countOrderedOn 8 = .ok (.isub, 1) := by decide +kernel
theorem dX3_countOrderedOn_9 : decode cX3_countOrderedOn 9 = .ok (.ireturn, 1) := by decide +kernel
set_option maxRecDepth 20000 in
theorem ggX3_countOf_X3_kindOf : GoodIn wsX3_countOf wsX3_kindOf := goodIn_r _ [5, 6, 7, 8, 4, 9, 10, 11, 12] (by decide +kernel) (by decide +kernel)
set_option maxRecDepth 20000 in
theorem gX3_countOf_X3_kindOf : GoodIn wsX3_countOf (wsV RX3 44 RX3 yX3_kindOf wsX3_kindOf) := goodIn_app (goodIn_of _ (by decide +kernel)) ggX3_countOf_X3_kindOf
theorem dX3_countOf_0 : decode cX3_countOf 0 = .ok (.iconst 0, 1) := by decide +kernel
theorem dX3_countOf_1 : decode cX3_countOf 1 = .ok (.istore_n 3, 1) := by decide +kernel
theorem dX3_countOf_2 : decode cX3_countOf 2 = .ok (.iconst 0, 1) := by decide +kernel
theorem dX3_countOf_3 : decode cX3_countOf 3 = .ok (.istore 4, 2) := by decide +kernel
theorem dX3_countOf_5 : decode cX3_countOf 5 = .ok (.iload 4, 2) := by decide +kernel
theorem dX3_countOf_7 : decode cX3_countOf 7 = .ok (.bipush 40, 2) := by decide +kernel
theorem dX3_countOf_9 : decode cX3_countOf 9 = .ok (.if_icmp .ge 23, 3) := by decide +kernel
theorem dX3_countOf_12 : decode cX3_countOf 12 = .ok (.aload_n 0, 1) := by decide +kernel
theorem dX3_countOf_13 : decode cX3_countOf 13 = .ok (.iload_n 1, 1) := by decide +kernel
theorem dX3_countOf_14 : decode cX3_countOf 14 = .ok (.iload 4, 2) := by decide +kernel
theorem dX3_countOf_16 : decode cX3_countOf 16 = .ok (.invokevirtual 44, 3) := by decide +kernel
theorem dX3_countOf_19 : decode cX3_countOf 19 = .ok (.iload_n 2, 1) := by decide +kernel
theorem dX3_countOf_20 : decode cX3_countOf 20 = .ok (.if_icmp .ne 6, 3) := by decide +kernel
theorem dX3_countOf_23 : decode cX3_countOf 23 = .ok (.iinc 3 1, 3) := by decide +kernel
theorem dX3_countOf_26 : decode cX3_countOf 26 = .ok (.iinc 4 1, 3) := by decide +kernel
theorem dX3_countOf_29 : decode cX3_countOf 29 = .ok (.goto (-24), 3) := by decide +kernel
theorem dX3_countOf_32 : decode cX3_countOf 32 = .ok (.iload_n 3, 1) := by decide +kernel
theorem dX3_countOf_33 : decode cX3_countOf 33 = .ok (.ireturn, 1) := by decide +kernel
set_option maxRecDepth 20000 in
theorem ggX3_countChargedToSiblings_X3_kindOf : GoodIn wsX3_countChargedToSiblings wsX3_kindOf := goodIn_r _ [5, 6, 7, 8, 4, 9, 15, 16, 17] (by decide +kernel) (by decide +kernel)
set_option maxRecDepth 20000 in
theorem gX3_countChargedToSiblings_X3_kindOf : GoodIn wsX3_countChargedToSiblings (wsV RX3 44 RX3 yX3_kindOf wsX3_kindOf) := goodIn_app (goodIn_of _ (by decide +kernel)) ggX3_countChargedToSiblings_X3_kindOf
set_option maxRecDepth 20000 in
theorem ggX3_countChargedToSiblings_X3_payerOf : GoodIn wsX3_countChargedToSiblings wsX3_payerOf := goodIn_r _ [13, 6, 14, 7, 8, 4, 9, 15, 16, 17] (by decide +kernel) (by decide +kernel)
set_option maxRecDepth 20000 in
theorem gX3_countChargedToSiblings_X3_payerOf : GoodIn wsX3_countChargedToSiblings (wsV RX3 47 RX3 yX3_payerOf wsX3_payerOf) := goodIn_app (goodIn_of _ (by decide +kernel)) ggX3_countChargedToSiblings_X3_payerOf
theorem dX3_countChargedToSiblings_0 : decode cX3_countChargedToSiblings 0 = .ok (.iconst 0, 1) := by decide +kernel
theorem dX3_countChargedToSiblings_1 : decode cX3_countChargedToSiblings 1 = .ok (.istore_n 2, 1) := by decide +kernel
theorem dX3_countChargedToSiblings_2 : decode cX3_countChargedToSiblings 2 = .ok (.iconst 0, 1) := by decide +kernel
theorem dX3_countChargedToSiblings_3 : decode cX3_countChargedToSiblings 3 = .ok (.istore_n 3, 1) := by decide +kernel
theorem dX3_countChargedToSiblings_4 : decode cX3_countChargedToSiblings 4 = .ok (.iload_n 3, 1) := by decide +kernel
theorem dX3_countChargedToSiblings_5 : decode cX3_countChargedToSiblings 5 = .ok (.bipush 40, 2) := by decide +kernel
theorem dX3_countChargedToSiblings_7 : decode cX3_countChargedToSiblings 7 = .ok (.if_icmp .ge 32, 3) := by decide +kernel
theorem dX3_countChargedToSiblings_10 : decode cX3_countChargedToSiblings 10 = .ok (.aload_n 0, 1) := by decide +kernel
theorem dX3_countChargedToSiblings_11 : decode cX3_countChargedToSiblings 11 = .ok (.iload_n 1, 1) := by decide +kernel
theorem dX3_countChargedToSiblings_12 : decode cX3_countChargedToSiblings 12 = .ok (.iload_n 3, 1) := by decide +kernel
theorem dX3_countChargedToSiblings_13 : decode cX3_countChargedToSiblings 13 = .ok (.invokevirtual 44, 3) := by decide +kernel
theorem dX3_countChargedToSiblings_16 : decode cX3_countChargedToSiblings 16 = .ok (.iconst 2, 1) := by decide +kernel
theorem dX3_countChargedToSiblings_17 : decode cX3_countChargedToSiblings 17 = .ok (.if_icmp .ne 16, 3) := by decide +kernel
theorem dX3_countChargedToSiblings_20 : decode cX3_countChargedToSiblings 20 = .ok (.aload_n 0, 1) := by decide +kernel
theorem dX3_countChargedToSiblings_21 : decode cX3_countChargedToSiblings 21 = .ok (.iload_n 1, 1) := by decide +kernel
theorem dX3_countChargedToSiblings_22 : decode cX3_countChargedToSiblings 22 = .ok (.iload_n 3, 1) := by decide +kernel
theorem dX3_countChargedToSiblings_23 : decode cX3_countChargedToSiblings 23 = .ok (.invokevirtual 47, 3) := by decide +kernel
theorem dX3_countChargedToSiblings_26 : decode cX3_countChargedToSiblings 26 = .ok (.iload_n 1, 1) := by decide +kernel
theorem dX3_countChargedToSiblings_27 : decode cX3_countChargedToSiblings 27 = .ok (.if_icmp .eq 6, 3) := by decide +kernel
theorem dX3_countChargedToSiblings_30 : decode cX3_countChargedToSiblings 30 = .ok (.iinc 2 1, 3) := by decide +kernel
theorem dX3_countChargedToSiblings_33 : decode cX3_countChargedToSiblings 33 = .ok (.iinc 3 1, 3) := by decide +kernel
theorem dX3_countChargedToSiblings_36 : decode cX3_countChargedToSiblings 36 = .ok (.goto (-32), 3) := by decide +kernel
theorem dX3_countChargedToSiblings_39 : decode cX3_countChargedToSiblings 39 = .ok (.iload_n 2, 1) := by decide +kernel
theorem dX3_countChargedToSiblings_40 : decode cX3_countChargedToSiblings 40 = .ok (.ireturn, 1) := by decide +kernel
theorem dX3_chargedTo_0 : decode cX3_chargedTo 0 = .ok (.iconst 0, 1) := by decide +kernel
theorem dX3_chargedTo_1 : decode cX3_chargedTo 1 = .ok (.istore_n 2, 1) := by decide +kernel
theorem dX3_chargedTo_2 : decode cX3_chargedTo 2 = .ok (.iconst 0, 1) := by decide +kernel
theorem dX3_chargedTo_3 : decode cX3_chargedTo 3 = .ok (.istore_n 3, 1) := by decide +kernel
theorem dX3_chargedTo_4 : decode cX3_chargedTo 4 = .ok (.iload_n 3, 1) := by decide +kernel
theorem dX3_chargedTo_5 : decode cX3_chargedTo 5 = .ok (.sipush 480, 3) := by decide +kernel
theorem dX3_chargedTo_8 : decode cX3_chargedTo 8 = .ok (.if_icmp .ge 38, 3) := by decide +kernel
theorem dX3_chargedTo_11 : decode cX3_chargedTo 11 = .ok (.aload_n 0, 1) := by decide +kernel
theorem dX3_chargedTo_12 : decode cX3_chargedTo 12 = .ok (.getfield 11, 3) := by decide +kernel
theorem dX3_chargedTo_15 : decode cX3_chargedTo 15 = .ok (.iload_n 3, 1) := by decide +kernel
theorem dX3_chargedTo_16 : decode cX3_chargedTo 16 = .ok (.iaload, 1) := by decide +kernel
theorem dX3_chargedTo_17 : decode cX3_chargedTo 17 = .ok (.iconst 2, 1) := by decide +kernel
theorem dX3_chargedTo_18 : decode cX3_chargedTo 18 = .ok (.if_icmp .ne 22, 3) := by decide +kernel
theorem dX3_chargedTo_21 : decode cX3_chargedTo 21 = .ok (.aload_n 0, 1) := by decide +kernel
theorem dX3_chargedTo_22 : decode cX3_chargedTo 22 = .ok (.getfield 18, 3) := by decide +kernel
theorem dX3_chargedTo_25 : decode cX3_chargedTo 25 = .ok (.iload_n 3, 1) := by decide +kernel
theorem dX3_chargedTo_26 : decode cX3_chargedTo 26 = .ok (.iaload, 1) := by decide +kernel
theorem dX3_chargedTo_27 : decode cX3_chargedTo 27 = .ok (.iload_n 1, 1) := by decide +kernel
theorem dX3_chargedTo_28 : decode cX3_chargedTo 28 = .ok (.if_icmp .ne 12, 3) := by decide +kernel
theorem dX3_chargedTo_31 : decode cX3_chargedTo 31 = .ok (.iload_n 2, 1) := by decide +kernel
theorem dX3_chargedTo_32 : decode cX3_chargedTo 32 = .ok (.aload_n 0, 1) := by decide +kernel
theorem dX3_chargedTo_33 : decode cX3_chargedTo 33 = .ok (.getfield 15, 3) := by decide +kernel
theorem dX3_chargedTo_36 : decode cX3_chargedTo 36 = .ok (.iload_n 3, 1) := by decide +kernel
theorem dX3_chargedTo_37 : decode cX3_chargedTo 37 = .ok (.iaload, 1) := by decide +kernel
theorem dX3_chargedTo_38 : decode cX3_chargedTo 38 = .ok (.iadd, 1) := by decide +kernel
theorem dX3_chargedTo_39 : decode cX3_chargedTo 39 = .ok (.istore_n 2, 1) := by decide +kernel
theorem dX3_chargedTo_40 : decode cX3_chargedTo 40 = .ok (.iinc 3 1, 3) := by decide +kernel
theorem dX3_chargedTo_43 : decode cX3_chargedTo 43 = .ok (.goto (-39), 3) := by decide +kernel
theorem dX3_chargedTo_46 : decode cX3_chargedTo 46 = .ok (.iload_n 2, 1) := by decide +kernel
theorem dX3_chargedTo_47 : decode cX3_chargedTo 47 = .ok (.ireturn, 1) := by decide +kernel
set_option maxRecDepth 20000 in
theorem ggX3_chargedOn_X3_kindOf : GoodIn wsX3_chargedOn wsX3_kindOf := goodIn_r _ [5, 6, 7, 8, 4, 9, 15, 16, 17] (by decide +kernel) (by decide +kernel)
set_option maxRecDepth 20000 in
theorem gX3_chargedOn_X3_kindOf : GoodIn wsX3_chargedOn (wsV RX3 44 RX3 yX3_kindOf wsX3_kindOf) := goodIn_app (goodIn_of _ (by decide +kernel)) ggX3_chargedOn_X3_kindOf
set_option maxRecDepth 20000 in
theorem ggX3_chargedOn_X3_chargeOf : GoodIn wsX3_chargedOn wsX3_chargeOf := goodIn_r _ [13, 6, 14, 7, 8, 4, 9, 15, 16, 17] (by decide +kernel) (by decide +kernel)
set_option maxRecDepth 20000 in
theorem gX3_chargedOn_X3_chargeOf : GoodIn wsX3_chargedOn (wsV RX3 50 RX3 yX3_chargeOf wsX3_chargeOf) := goodIn_app (goodIn_of _ (by decide +kernel)) ggX3_chargedOn_X3_chargeOf
theorem dX3_chargedOn_0 : decode cX3_chargedOn 0 = .ok (.iconst 0, 1) := by decide +kernel
theorem dX3_chargedOn_1 : decode cX3_chargedOn 1 = .ok (.istore_n 2, 1) := by decide +kernel
theorem dX3_chargedOn_2 : decode cX3_chargedOn 2 = .ok (.iconst 0, 1) := by decide +kernel
theorem dX3_chargedOn_3 : decode cX3_chargedOn 3 = .ok (.istore_n 3, 1) := by decide +kernel
theorem dX3_chargedOn_4 : decode cX3_chargedOn 4 = .ok (.iload_n 3, 1) := by decide +kernel
theorem dX3_chargedOn_5 : decode cX3_chargedOn 5 = .ok (.bipush 12, 2) := by decide +kernel
theorem dX3_chargedOn_7 : decode cX3_chargedOn 7 = .ok (.if_icmp .ge 28, 3) := by decide +kernel
theorem dX3_chargedOn_10 : decode cX3_chargedOn 10 = .ok (.aload_n 0, 1) := by decide +kernel
theorem dX3_chargedOn_11 : decode cX3_chargedOn 11 = .ok (.iload_n 3, 1) := by decide +kernel
theorem dX3_chargedOn_12 : decode cX3_chargedOn 12 = .ok (.iload_n 1, 1) := by decide +kernel
theorem dX3_chargedOn_13 : decode cX3_chargedOn 13 = .ok (.invokevirtual 44, 3) := by decide +kernel
theorem dX3_chargedOn_16 : decode cX3_chargedOn 16 = .ok (.iconst 2, 1) := by decide +kernel
theorem dX3_chargedOn_17 : decode cX3_chargedOn 17 = .ok (.if_icmp .ne 12, 3) := by decide +kernel
theorem dX3_chargedOn_20 : decode cX3_chargedOn 20 = .ok (.iload_n 2, 1) := by decide +kernel
theorem dX3_chargedOn_21 : decode cX3_chargedOn 21 = .ok (.aload_n 0, 1) := by decide +kernel
theorem dX3_chargedOn_22 : decode cX3_chargedOn 22 = .ok (.iload_n 3, 1) := by decide +kernel
theorem dX3_chargedOn_23 : decode cX3_chargedOn 23 = .ok (.iload_n 1, 1) := by decide +kernel
theorem dX3_chargedOn_24 : decode cX3_chargedOn 24 = .ok (.invokevirtual 50, 3) := by decide +kernel
theorem dX3_chargedOn_27 : decode cX3_chargedOn 27 = .ok (.iadd, 1) := by decide +kernel
theorem dX3_chargedOn_28 : decode cX3_chargedOn 28 = .ok (.istore_n 2, 1) := by decide +kernel
theorem dX3_chargedOn_29 : decode cX3_chargedOn 29 = .ok (.iinc 3 1, 3) := by decide +kernel
theorem dX3_chargedOn_32 : decode cX3_chargedOn 32 = .ok (.goto (-28), 3) := by decide +kernel
theorem dX3_chargedOn_35 : decode cX3_chargedOn 35 = .ok (.iload_n 2, 1) := by decide +kernel
theorem dX3_chargedOn_36 : decode cX3_chargedOn 36 = .ok (.ireturn, 1) := by decide +kernel
set_option maxRecDepth 20000 in
theorem ggX3_chargedInAll_X3_chargedOn : GoodIn wsX3_chargedInAll wsX3_chargedOn := goodIn_r _ [5, 6, 7, 8, 4, 9, 10, 11, 12, 13, 14, 15, 16, 17, 18, 19, 20, 21] (by decide +kernel) (by decide +kernel)
set_option maxRecDepth 20000 in
theorem gX3_chargedInAll_X3_chargedOn : GoodIn wsX3_chargedInAll (wsV RX3 53 RX3 yX3_chargedOn wsX3_chargedOn) := goodIn_app (goodIn_of _ (by decide +kernel)) ggX3_chargedInAll_X3_chargedOn
theorem dX3_chargedInAll_0 : decode cX3_chargedInAll 0 = .ok (.iconst 0, 1) := by decide +kernel
theorem dX3_chargedInAll_1 : decode cX3_chargedInAll 1 = .ok (.istore_n 1, 1) := by decide +kernel
theorem dX3_chargedInAll_2 : decode cX3_chargedInAll 2 = .ok (.iconst 0, 1) := by decide +kernel
theorem dX3_chargedInAll_3 : decode cX3_chargedInAll 3 = .ok (.istore_n 2, 1) := by decide +kernel
theorem dX3_chargedInAll_4 : decode cX3_chargedInAll 4 = .ok (.iload_n 2, 1) := by decide +kernel
theorem dX3_chargedInAll_5 : decode cX3_chargedInAll 5 = .ok (.bipush 40, 2) := by decide +kernel
theorem dX3_chargedInAll_7 : decode cX3_chargedInAll 7 = .ok (.if_icmp .ge 17, 3) := by decide +kernel
theorem dX3_chargedInAll_10 : decode cX3_chargedInAll 10 = .ok (.iload_n 1, 1) := by decide +kernel
theorem dX3_chargedInAll_11 : decode cX3_chargedInAll 11 = .ok (.aload_n 0, 1) := by decide +kernel
theorem dX3_chargedInAll_12 : decode cX3_chargedInAll 12 = .ok (.iload_n 2, 1) := by decide +kernel
theorem dX3_chargedInAll_13 : decode cX3_chargedInAll 13 = .ok (.invokevirtual 53, 3) := by decide +kernel
theorem dX3_chargedInAll_16 : decode cX3_chargedInAll 16 = .ok (.iadd, 1) := by decide +kernel
theorem dX3_chargedInAll_17 : decode cX3_chargedInAll 17 = .ok (.istore_n 1, 1) := by decide +kernel
theorem dX3_chargedInAll_18 : decode cX3_chargedInAll 18 = .ok (.iinc 2 1, 3) := by decide +kernel
theorem dX3_chargedInAll_21 : decode cX3_chargedInAll 21 = .ok (.goto (-17), 3) := by decide +kernel
theorem dX3_chargedInAll_24 : decode cX3_chargedInAll 24 = .ok (.iload_n 1, 1) := by decide +kernel
theorem dX3_chargedInAll_25 : decode cX3_chargedInAll 25 = .ok (.ireturn, 1) := by decide +kernel
theorem dX4_init_0 : decode cX4_init 0 = .ok (.aload_n 0, 1) := by decide +kernel
theorem dX4_init_1 : decode cX4_init 1 = .ok (.invokespecial 3, 3) := by decide +kernel
theorem dX4_init_4 : decode cX4_init 4 = .ok (.aload_n 0, 1) := by decide +kernel
theorem dX4_init_5 : decode cX4_init 5 = .ok (.bipush 120, 2) := by decide +kernel
theorem dX4_init_7 : decode cX4_init 7 = .ok (.newarray .char, 2) := by decide +kernel
theorem dX4_init_9 : decode cX4_init 9 = .ok (.putfield 9, 3) := by decide +kernel
theorem dX4_init_12 : decode cX4_init 12 = .ok (.aload_n 0, 1) := by decide +kernel
theorem dX4_init_13 : decode cX4_init 13 = .ok (.iconst 3, 1) := by decide +kernel
theorem dX4_init_14 : decode cX4_init 14 = .ok (.newarray .int, 2) := by decide +kernel
theorem dX4_init_16 : decode cX4_init 16 = .ok (.putfield 15, 3) := by decide +kernel
theorem dX4_init_19 : decode cX4_init 19 = .ok (.return_, 1) := by decide +kernel
theorem dX4_add_0 : decode cX4_add 0 = .ok (.aload_n 0, 1) := by decide +kernel
theorem dX4_add_1 : decode cX4_add 1 = .ok (.getfield 9, 3) := by decide +kernel
theorem dX4_add_4 : decode cX4_add 4 = .ok (.aload_n 0, 1) := by decide +kernel
theorem dX4_add_5 : decode cX4_add 5 = .ok (.getfield 19, 3) := by decide +kernel
theorem dX4_add_8 : decode cX4_add 8 = .ok (.iload_n 1, 1) := by decide +kernel
theorem dX4_add_9 : decode cX4_add 9 = .ok (.castore, 1) := by decide +kernel
theorem dX4_add_10 : decode cX4_add 10 = .ok (.aload_n 0, 1) := by decide +kernel
theorem dX4_add_11 : decode cX4_add 11 = .ok (.dup, 1) := by decide +kernel
theorem dX4_add_12 : decode cX4_add 12 = .ok (.getfield 19, 3) := by decide +kernel
theorem dX4_add_15 : decode cX4_add 15 = .ok (.iconst 1, 1) := by decide +kernel
theorem dX4_add_16 : decode cX4_add 16 = .ok (.iadd, 1) := by decide +kernel
theorem dX4_add_17 : decode cX4_add 17 = .ok (.putfield 19, 3) := by decide +kernel
theorem dX4_add_20 : decode cX4_add 20 = .ok (.aload_n 0, 1) := by decide +kernel
theorem dX4_add_21 : decode cX4_add 21 = .ok (.getfield 19, 3) := by decide +kernel
theorem dX4_add_24 : decode cX4_add 24 = .ok (.ireturn, 1) := by decide +kernel
set_option maxRecDepth 20000 in
theorem ggX4_firstError_X4_readStart : GoodIn wsX4_firstError wsX4_readStart := goodIn_r _ [6, 1, 7, 8, 9, 10, 5, 11, 12, 89, 90, 91, 92, 93] (by decide +kernel) (by decide +kernel)
set_option maxRecDepth 20000 in
theorem gX4_firstError_X4_readStart : GoodIn wsX4_firstError (wsV RX4 23 RX4 yX4_readStart wsX4_readStart) := goodIn_app (goodIn_of _ (by decide +kernel)) ggX4_firstError_X4_readStart
set_option maxRecDepth 20000 in
theorem ggX4_firstError_X4_isAtEnd : GoodIn wsX4_firstError wsX4_isAtEnd := goodIn_r _ [11, 1, 12, 89, 90, 91, 92, 93] (by decide +kernel) (by decide +kernel)
set_option maxRecDepth 20000 in
theorem gX4_firstError_X4_isAtEnd : GoodIn wsX4_firstError (wsV RX4 27 RX4 yX4_isAtEnd wsX4_isAtEnd) := goodIn_app (goodIn_of _ (by decide +kernel)) ggX4_firstError_X4_isAtEnd
set_option maxRecDepth 20000 in
theorem ggX4_firstError_X4_readCommand : GoodIn wsX4_firstError wsX4_readCommand := goodIn_r _ [16, 7, 1, 17, 8, 9, 10, 5, 11, 12, 18, 19, 20, 21, 22, 23, 24, 25, 26, 27, 28, 29, 30, 31, 32, 33, 34, 35, 36, 37, 38, 39, 40, 41, 42, 43, 44, 45, 46, 47, 48, 49, 50, 51, 52, 53, 54, 55, 56, 57, 58, 59, 60, 61, 62, 63, 64, 65, 66, 67, 68, 69, 70, 71, 72, 73, 74, 75, 76, 77, 78, 79, 80, 81, 82, 83, 84, 85, 86, 87, 88, 89, 90, 91, 92, 93] (by decide +kernel) (by decide +kernel)
set_option maxRecDepth 20000 in
theorem gX4_firstError_X4_readCommand : GoodIn wsX4_firstError (wsV RX4 30 RX4 yX4_readCommand wsX4_readCommand) := goodIn_app (goodIn_of _ (by decide +kernel)) ggX4_firstError_X4_readCommand
theorem dX4_firstError_0 : decode cX4_firstError 0 = .ok (.aload_n 0, 1) := by decide +kernel
theorem dX4_firstError_1 : decode cX4_firstError 1 = .ok (.invokevirtual 23, 3) := by decide +kernel
theorem dX4_firstError_4 : decode cX4_firstError 4 = .ok (.istore_n 1, 1) := by decide +kernel
theorem dX4_firstError_5 : decode cX4_firstError 5 = .ok (.iconst 0, 1) := by decide +kernel
theorem dX4_firstError_6 : decode cX4_firstError 6 = .ok (.istore_n 2, 1) := by decide +kernel
theorem dX4_firstError_7 : decode cX4_firstError 7 = .ok (.iload_n 2, 1) := by decide +kernel
theorem dX4_firstError_8 : decode cX4_firstError 8 = .ok (.bipush 120, 2) := by decide +kernel
theorem dX4_firstError_10 : decode cX4_firstError 10 = .ok (.if_icmp .ge 25, 3) := by decide +kernel
theorem dX4_firstError_13 : decode cX4_firstError 13 = .ok (.iload_n 1, 1) := by decide +kernel
theorem dX4_firstError_14 : decode cX4_firstError 14 = .ok (.ifCond .eq 21, 3) := by decide +kernel
theorem dX4_firstError_17 : decode cX4_firstError 17 = .ok (.aload_n 0, 1) := by decide +kernel
theorem dX4_firstError_18 : decode cX4_firstError 18 = .ok (.invokevirtual 27, 3) := by decide +kernel
theorem dX4_firstError_21 : decode cX4_firstError 21 = .ok (.ifCond .ne 14, 3) := by decide +kernel
theorem dX4_firstError_24 : decode cX4_firstError 24 = .ok (.aload_n 0, 1) := by decide +kernel
theorem dX4_firstError_25 : decode cX4_firstError 25 = .ok (.invokevirtual 30, 3) := by decide +kernel
theorem dX4_firstError_28 : decode cX4_firstError 28 = .ok (.istore_n 1, 1) := by decide +kernel
theorem dX4_firstError_29 : decode cX4_firstError 29 = .ok (.iinc 2 1, 3) := by decide +kernel
theorem dX4_firstError_32 : decode cX4_firstError 32 = .ok (.goto (-25), 3) := by decide +kernel
theorem dX4_firstError_35 : decode cX4_firstError 35 = .ok (.iload_n 1, 1) := by decide +kernel
theorem dX4_firstError_36 : decode cX4_firstError 36 = .ok (.ifCond .eq 7, 3) := by decide +kernel
theorem dX4_firstError_39 : decode cX4_firstError 39 = .ok (.iconst (-1), 1) := by decide +kernel
theorem dX4_firstError_40 : decode cX4_firstError 40 = .ok (.goto 7, 3) := by decide +kernel
theorem dX4_firstError_43 : decode cX4_firstError 43 = .ok (.aload_n 0, 1) := by decide +kernel
theorem dX4_firstError_44 : decode cX4_firstError 44 = .ok (.getfield 33, 3) := by decide +kernel
theorem dX4_firstError_47 : decode cX4_firstError 47 = .ok (.ireturn, 1) := by decide +kernel
theorem dX4_isAtEnd_0 : decode cX4_isAtEnd 0 = .ok (.aload_n 0, 1) := by decide +kernel
theorem dX4_isAtEnd_1 : decode cX4_isAtEnd 1 = .ok (.getfield 33, 3) := by decide +kernel
theorem dX4_isAtEnd_4 : decode cX4_isAtEnd 4 = .ok (.aload_n 0, 1) := by decide +kernel
theorem dX4_isAtEnd_5 : decode cX4_isAtEnd 5 = .ok (.getfield 19, 3) := by decide +kernel
theorem dX4_isAtEnd_8 : decode cX4_isAtEnd 8 = .ok (.if_icmp .lt 7, 3) := by decide +kernel
theorem dX4_isAtEnd_11 : decode cX4_isAtEnd 11 = .ok (.iconst 1, 1) := by decide +kernel
theorem dX4_isAtEnd_12 : decode cX4_isAtEnd 12 = .ok (.goto 4, 3) := by decide +kernel
theorem dX4_isAtEnd_15 : decode cX4_isAtEnd 15 = .ok (.iconst 0, 1) := by decide +kernel
theorem dX4_isAtEnd_16 : decode cX4_isAtEnd 16 = .ok (.ireturn, 1) := by decide +kernel
set_option maxRecDepth 20000 in
theorem ggX4_readStart_X4_isAtEnd : GoodIn wsX4_readStart wsX4_isAtEnd := goodIn_r _ [7, 1, 8, 9, 10, 11, 12, 13] (by decide +kernel) (by decide +kernel)
set_option maxRecDepth 20000 in
theorem gX4_readStart_X4_isAtEnd : GoodIn wsX4_readStart (wsV RX4 27 RX4 yX4_isAtEnd wsX4_isAtEnd) := goodIn_app (goodIn_of _ (by decide +kernel)) ggX4_readStart_X4_isAtEnd
theorem dX4_readStart_0 : decode cX4_readStart 0 = .ok (.aload_n 0, 1) := by decide +kernel
theorem dX4_readStart_1 : decode cX4_readStart 1 = .ok (.iconst 0, 1) := by decide +kernel
theorem dX4_readStart_2 : decode cX4_readStart 2 = .ok (.putfield 33, 3) := by decide +kernel
theorem dX4_readStart_5 : decode cX4_readStart 5 = .ok (.aload_n 0, 1) := by decide +kernel
theorem dX4_readStart_6 : decode cX4_readStart 6 = .ok (.invokevirtual 27, 3) := by decide +kernel
theorem dX4_readStart_9 : decode cX4_readStart 9 = .ok (.ifCond .ne 17, 3) := by decide +kernel
theorem dX4_readStart_12 : decode cX4_readStart 12 = .ok (.aload_n 0, 1) := by decide +kernel
theorem dX4_readStart_13 : decode cX4_readStart 13 = .ok (.getfield 9, 3) := by decide +kernel
theorem dX4_readStart_16 : decode cX4_readStart 16 = .ok (.aload_n 0, 1) := by decide +kernel
theorem dX4_readStart_17 : decode cX4_readStart 17 = .ok (.getfield 33, 3) := by decide +kernel
theorem dX4_readStart_20 : decode cX4_readStart 20 = .ok (.caload, 1) := by decide +kernel
theorem dX4_readStart_21 : decode cX4_readStart 21 = .ok (.bipush 83, 2) := by decide +kernel
theorem dX4_readStart_23 : decode cX4_readStart 23 = .ok (.if_icmp .eq 5, 3) := by decide +kernel
theorem dX4_readStart_26 : decode cX4_readStart 26 = .ok (.iconst 0, 1) := by decide +kernel
theorem dX4_readStart_27 : decode cX4_readStart 27 = .ok (.ireturn, 1) := by decide +kernel
theorem dX4_readStart_28 : decode cX4_readStart 28 = .ok (.aload_n 0, 1) := by decide +kernel
theorem dX4_readStart_29 : decode cX4_readStart 29 = .ok (.dup, 1) := by decide +kernel
theorem dX4_readStart_30 : decode cX4_readStart 30 = .ok (.getfield 33, 3) := by decide +kernel
theorem dX4_readStart_33 : decode cX4_readStart 33 = .ok (.iconst 1, 1) := by decide +kernel
theorem dX4_readStart_34 : decode cX4_readStart 34 = .ok (.iadd, 1) := by decide +kernel
theorem dX4_readStart_35 : decode cX4_readStart 35 = .ok (.putfield 33, 3) := by decide +kernel
theorem dX4_readStart_38 : decode cX4_readStart 38 = .ok (.iconst 1, 1) := by decide +kernel
theorem dX4_readStart_39 : decode cX4_readStart 39 = .ok (.ireturn, 1) := by decide +kernel
set_option maxRecDepth 20000 in
theorem ggX4_readCommand_X4_isAtEnd : GoodIn wsX4_readCommand wsX4_isAtEnd := goodIn_r _ [8, 2, 9, 81, 82, 83, 84, 85] (by decide +kernel) (by decide +kernel)
set_option maxRecDepth 20000 in
theorem gX4_readCommand_X4_isAtEnd : GoodIn wsX4_readCommand (wsV RX4 27 RX4 yX4_isAtEnd wsX4_isAtEnd) := goodIn_app (goodIn_of _ (by decide +kernel)) ggX4_readCommand_X4_isAtEnd
set_option maxRecDepth 20000 in
theorem ggX4_readCommand_X4_numbersOf : GoodIn wsX4_readCommand wsX4_numbersOf := goodIn_r _ [12] (by decide +kernel) (by decide +kernel)
set_option maxRecDepth 20000 in
theorem gX4_readCommand_X4_numbersOf : GoodIn wsX4_readCommand (va_wsS RX4 40 yX4_numbersOf wsX4_numbersOf) := goodIn_app (goodIn_of _ (by decide +kernel)) ggX4_readCommand_X4_numbersOf
set_option maxRecDepth 20000 in
theorem ggX4_readCommand_J0_isEmpty_aae02 : GoodIn wsX4_readCommand wsJ0_isEmpty_aae02 := goodIn_r _ [17, 18] (by decide +kernel) (by decide +kernel)
set_option maxRecDepth 20000 in
theorem gX4_readCommand_J0_isEmpty_aae02 : GoodIn wsX4_readCommand (wsV RX4 44 RJ0 yJ0_isEmpty_aae02 wsJ0_isEmpty_aae02) := goodIn_app (goodIn_of _ (by decide +kernel)) ggX4_readCommand_J0_isEmpty_aae02
set_option maxRecDepth 20000 in
theorem ggX4_readCommand_J0_length_8abf5 : GoodIn wsX4_readCommand wsJ0_length_8abf5 := goodIn_r _ [22, 18, 23, 24, 25, 16, 26, 27, 28] (by decide +kernel) (by decide +kernel)
set_option maxRecDepth 20000 in
theorem gX4_readCommand_J0_length_8abf5 : GoodIn wsX4_readCommand (wsV RX4 49 RJ0 yJ0_length_8abf5 wsJ0_length_8abf5) := goodIn_app (goodIn_of _ (by decide +kernel)) ggX4_readCommand_J0_length_8abf5
set_option maxRecDepth 20000 in
theorem ggX4_readCommand_J0_charAt_5068e : GoodIn wsX4_readCommand wsJ0_charAt_5068e := goodIn_r _ [32, 18, 33, 34, 35, 16, 36, 27, 28, 37, 38, 39, 40, 41, 42, 43, 44, 45, 46, 47, 48, 49, 50, 51, 52, 53, 54, 55, 56, 57, 58, 59, 60, 61, 62, 63, 64, 65] (by decide +kernel) (by decide +kernel)
set_option maxRecDepth 20000 in
theorem gX4_readCommand_J0_charAt_5068e : GoodIn wsX4_readCommand (wsV RX4 52 RJ0 yJ0_charAt_5068e wsJ0_charAt_5068e) := goodIn_app (goodIn_of _ (by decide +kernel)) ggX4_readCommand_J0_charAt_5068e
set_option maxRecDepth 20000 in
theorem ggX4_readCommand_X4_readNumber : GoodIn wsX4_readCommand wsX4_readNumber := goodIn_r _ [69, 70, 71, 72, 7, 73, 1, 2, 74, 4, 5, 6, 8, 9, 75, 76, 77, 78, 79, 80, 81, 82, 83, 84, 85] (by decide +kernel) (by decide +kernel)
set_option maxRecDepth 20000 in
theorem gX4_readCommand_X4_readNumber : GoodIn wsX4_readCommand (wsV RX4 56 RX4 yX4_readNumber wsX4_readNumber) := goodIn_app (goodIn_of _ (by decide +kernel)) ggX4_readCommand_X4_readNumber
theorem dX4_readCommand_0 : decode cX4_readCommand 0 = .ok (.aload_n 0, 1) := by decide +kernel
theorem dX4_readCommand_1 : decode cX4_readCommand 1 = .ok (.invokevirtual 27, 3) := by decide +kernel
theorem dX4_readCommand_4 : decode cX4_readCommand 4 = .ok (.ifCond .eq 5, 3) := by decide +kernel
theorem dX4_readCommand_7 : decode cX4_readCommand 7 = .ok (.iconst 0, 1) := by decide +kernel
theorem dX4_readCommand_8 : decode cX4_readCommand 8 = .ok (.ireturn, 1) := by decide +kernel
theorem dX4_readCommand_9 : decode cX4_readCommand 9 = .ok (.aload_n 0, 1) := by decide +kernel
theorem dX4_readCommand_10 : decode cX4_readCommand 10 = .ok (.aload_n 0, 1) := by decide +kernel
theorem dX4_readCommand_11 : decode cX4_readCommand 11 = .ok (.getfield 9, 3) := by decide +kernel
theorem dX4_readCommand_14 : decode cX4_readCommand 14 = .ok (.aload_n 0, 1) := by decide +kernel
theorem dX4_readCommand_15 : decode cX4_readCommand 15 = .ok (.getfield 33, 3) := by decide +kernel
theorem dX4_readCommand_18 : decode cX4_readCommand 18 = .ok (.caload, 1) := by decide +kernel
theorem dX4_readCommand_19 : decode cX4_readCommand 19 = .ok (.putfield 36, 3) := by decide +kernel
theorem dX4_readCommand_22 : decode cX4_readCommand 22 = .ok (.aload_n 0, 1) := by decide +kernel
theorem dX4_readCommand_23 : decode cX4_readCommand 23 = .ok (.getfield 36, 3) := by decide +kernel
theorem dX4_readCommand_26 : decode cX4_readCommand 26 = .ok (.invokestatic 40, 3) := by decide +kernel
theorem dX4_readCommand_29 : decode cX4_readCommand 29 = .ok (.astore_n 1, 1) := by decide +kernel
theorem dX4_readCommand_30 : decode cX4_readCommand 30 = .ok (.aload_n 1, 1) := by decide +kernel
theorem dX4_readCommand_31 : decode cX4_readCommand 31 = .ok (.invokevirtual 44, 3) := by decide +kernel
theorem dX4_readCommand_34 : decode cX4_readCommand 34 = .ok (.ifCond .eq 5, 3) := by decide +kernel
theorem dX4_readCommand_37 : decode cX4_readCommand 37 = .ok (.iconst 0, 1) := by decide +kernel
theorem dX4_readCommand_38 : decode cX4_readCommand 38 = .ok (.ireturn, 1) := by decide +kernel
theorem dX4_readCommand_39 : decode cX4_readCommand 39 = .ok (.aload_n 0, 1) := by decide +kernel
theorem dX4_readCommand_40 : decode cX4_readCommand 40 = .ok (.dup, 1) := by decide +kernel
theorem dX4_readCommand_41 : decode cX4_readCommand 41 = .ok (.getfield 33, 3) := by decide +kernel
theorem dX4_readCommand_44 : decode cX4_readCommand 44 = .ok (.iconst 1, 1) := by decide +kernel
theorem dX4_readCommand_45 : decode cX4_readCommand 45 = .ok (.iadd, 1) := by decide +kernel
theorem dX4_readCommand_46 : decode cX4_readCommand 46 = .ok (.putfield 33, 3) := by decide +kernel
theorem dX4_readCommand_49 : decode cX4_readCommand 49 = .ok (.iconst 0, 1) := by decide +kernel
theorem dX4_readCommand_50 : decode cX4_readCommand 50 = .ok (.istore_n 2, 1) := by decide +kernel
theorem dX4_readCommand_51 : decode cX4_readCommand 51 = .ok (.iload_n 2, 1) := by decide +kernel
theorem dX4_readCommand_52 : decode cX4_readCommand 52 = .ok (.aload_n 1, 1) := by decide +kernel
theorem dX4_readCommand_53 : decode cX4_readCommand 53 = .ok (.invokevirtual 49, 3) := by decide +kernel
theorem dX4_readCommand_56 : decode cX4_readCommand 56 = .ok (.if_icmp .ge 29, 3) := by decide +kernel
theorem dX4_readCommand_59 : decode cX4_readCommand 59 = .ok (.iload_n 2, 1) := by decide +kernel
theorem dX4_readCommand_60 : decode cX4_readCommand 60 = .ok (.iconst 3, 1) := by decide +kernel
theorem dX4_readCommand_61 : decode cX4_readCommand 61 = .ok (.if_icmp .ge 24, 3) := by decide +kernel
theorem dX4_readCommand_64 : decode cX4_readCommand 64 = .ok (.aload_n 0, 1) := by decide +kernel
theorem dX4_readCommand_65 : decode cX4_readCommand 65 = .ok (.iload_n 2, 1) := by decide +kernel
theorem dX4_readCommand_66 : decode cX4_readCommand 66 = .ok (.aload_n 1, 1) := by decide +kernel
theorem dX4_readCommand_67 : decode cX4_readCommand 67 = .ok (.iload_n 2, 1) := by decide +kernel
theorem dX4_readCommand_68 : decode cX4_readCommand 68 = .ok (.invokevirtual 52, 3) := by decide +kernel
theorem dX4_readCommand_71 : decode cX4_readCommand 71 = .ok (.invokevirtual 56, 3) := by decide +kernel
theorem dX4_readCommand_74 : decode cX4_readCommand 74 = .ok (.ifCond .ne 5, 3) := by decide +kernel
theorem dX4_readCommand_77 : decode cX4_readCommand 77 = .ok (.iconst 0, 1) := by decide +kernel
theorem dX4_readCommand_78 : decode cX4_readCommand 78 = .ok (.ireturn, 1) := by decide +kernel
theorem dX4_readCommand_79 : decode cX4_readCommand 79 = .ok (.iinc 2 1, 3) := by decide +kernel
theorem dX4_readCommand_82 : decode cX4_readCommand 82 = .ok (.goto (-31), 3) := by decide +kernel
theorem dX4_readCommand_85 : decode cX4_readCommand 85 = .ok (.iconst 1, 1) := by decide +kernel
theorem dX4_readCommand_86 : decode cX4_readCommand 86 = .ok (.ireturn, 1) := by decide +kernel
theorem dX4_numbersOf_0 : decode cX4_numbersOf 0 = .ok (.iload_n 0, 1) := by decide +kernel
theorem dX4_numbersOf_1 : decode cX4_numbersOf 1 = .ok (.tableswitch 92 99 112 #[71, 89, 83, 92, 92, 86, 92, 92, 92, 92, 74, 92, 77, 80], 71) := by decide +kernel
theorem dX4_numbersOf_72 : decode cX4_numbersOf 72 = .ok (.ldc 60, 2) := by decide +kernel
theorem dX4_numbersOf_74 : decode cX4_numbersOf 74 = .ok (.areturn, 1) := by decide +kernel
theorem dX4_numbersOf_75 : decode cX4_numbersOf 75 = .ok (.ldc 62, 2) := by decide +kernel
theorem dX4_numbersOf_77 : decode cX4_numbersOf 77 = .ok (.areturn, 1) := by decide +kernel
theorem dX4_numbersOf_78 : decode cX4_numbersOf 78 = .ok (.ldc 64, 2) := by decide +kernel
theorem dX4_numbersOf_80 : decode cX4_numbersOf 80 = .ok (.areturn, 1) := by decide +kernel
theorem dX4_numbersOf_81 : decode cX4_numbersOf 81 = .ok (.ldc 66, 2) := by decide +kernel
theorem dX4_numbersOf_83 : decode cX4_numbersOf 83 = .ok (.areturn, 1) := by decide +kernel
theorem dX4_numbersOf_84 : decode cX4_numbersOf 84 = .ok (.ldc 68, 2) := by decide +kernel
theorem dX4_numbersOf_86 : decode cX4_numbersOf 86 = .ok (.areturn, 1) := by decide +kernel
theorem dX4_numbersOf_87 : decode cX4_numbersOf 87 = .ok (.ldc 70, 2) := by decide +kernel
theorem dX4_numbersOf_89 : decode cX4_numbersOf 89 = .ok (.areturn, 1) := by decide +kernel
theorem dX4_numbersOf_90 : decode cX4_numbersOf 90 = .ok (.ldc 72, 2) := by decide +kernel
theorem dX4_numbersOf_92 : decode cX4_numbersOf 92 = .ok (.areturn, 1) := by decide +kernel
theorem dX4_numbersOf_93 : decode cX4_numbersOf 93 = .ok (.ldc 74, 2) := by decide +kernel
theorem dX4_numbersOf_95 : decode cX4_numbersOf 95 = .ok (.areturn, 1) := by decide +kernel
set_option maxRecDepth 20000 in
theorem ggX4_readNumber_X4_readRange : GoodIn wsX4_readNumber wsX4_readRange := goodIn_r _ [5, 6, 7, 8, 9, 10, 11, 4, 12, 13, 14, 15, 16, 17, 18, 19, 20, 21, 22, 23, 24] (by decide +kernel) (by decide +kernel)
set_option maxRecDepth 20000 in
theorem gX4_readNumber_X4_readRange : GoodIn wsX4_readNumber (wsV RX4 76 RX4 yX4_readRange wsX4_readRange) := goodIn_app (goodIn_of _ (by decide +kernel)) ggX4_readNumber_X4_readRange
theorem dX4_readNumber_0 : decode cX4_readNumber 0 = .ok (.iload_n 2, 1) := by decide +kernel
theorem dX4_readNumber_1 : decode cX4_readNumber 1 = .ok (.tableswitch 154 97 116 #[143, 154, 133, 123, 154, 95, 154, 154, 154, 154, 154, 154, 154, 113, 154, 154, 154, 154, 154, 104], 95) := by decide +kernel
theorem dX4_readNumber_96 : decode cX4_readNumber 96 = .ok (.aload_n 0, 1) := by decide +kernel
theorem dX4_readNumber_97 : decode cX4_readNumber 97 = .ok (.iload_n 1, 1) := by decide +kernel
theorem dX4_readNumber_98 : decode cX4_readNumber 98 = .ok (.iconst 1, 1) := by decide +kernel
theorem dX4_readNumber_99 : decode cX4_readNumber 99 = .ok (.iconst 0, 1) := by decide +kernel
theorem dX4_readNumber_100 : decode cX4_readNumber 100 = .ok (.iconst 4, 1) := by decide +kernel
theorem dX4_readNumber_101 : decode cX4_readNumber 101 = .ok (.invokevirtual 76, 3) := by decide +kernel
theorem dX4_readNumber_104 : decode cX4_readNumber 104 = .ok (.ireturn, 1) := by decide +kernel
theorem dX4_readNumber_105 : decode cX4_readNumber 105 = .ok (.aload_n 0, 1) := by decide +kernel
theorem dX4_readNumber_106 : decode cX4_readNumber 106 = .ok (.iload_n 1, 1) := by decide +kernel
theorem dX4_readNumber_107 : decode cX4_readNumber 107 = .ok (.iconst 1, 1) := by decide +kernel
theorem dX4_readNumber_108 : decode cX4_readNumber 108 = .ok (.iconst 0, 1) := by decide +kernel
theorem dX4_readNumber_109 : decode cX4_readNumber 109 = .ok (.iconst 3, 1) := by decide +kernel
theorem dX4_readNumber_110 : decode cX4_readNumber 110 = .ok (.invokevirtual 76, 3) := by decide +kernel
theorem dX4_readNumber_113 : decode cX4_readNumber 113 = .ok (.ireturn, 1) := by decide +kernel
theorem dX4_readNumber_114 : decode cX4_readNumber 114 = .ok (.aload_n 0, 1) := by decide +kernel
theorem dX4_readNumber_115 : decode cX4_readNumber 115 = .ok (.iload_n 1, 1) := by decide +kernel
theorem dX4_readNumber_116 : decode cX4_readNumber 116 = .ok (.iconst 1, 1) := by decide +kernel
theorem dX4_readNumber_117 : decode cX4_readNumber 117 = .ok (.iconst 1, 1) := by decide +kernel
theorem dX4_readNumber_118 : decode cX4_readNumber 118 = .ok (.bipush 9, 2) := by decide +kernel
theorem dX4_readNumber_120 : decode cX4_readNumber 120 = .ok (.invokevirtual 76, 3) := by decide +kernel
