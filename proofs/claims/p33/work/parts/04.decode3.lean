theorem dX5_simulate_55 : decode cX5_simulate 55 = .ok (.lstore 4, 2) := by decide +kernel
theorem dX5_simulate_57 : decode cX5_simulate 57 = .ok (.aload_n 0, 1) := by decide +kernel
theorem dX5_simulate_58 : decode cX5_simulate 58 = .ok (.getfield 23, 3) := by decide +kernel
theorem dX5_simulate_61 : decode cX5_simulate 61 = .ok (.lload 4, 2) := by decide +kernel
theorem dX5_simulate_63 : decode cX5_simulate 63 = .ok (.bipush 33, 2) := by decide +kernel
theorem dX5_simulate_65 : decode cX5_simulate 65 = .ok (.lushr, 1) := by decide +kernel
theorem dX5_simulate_66 : decode cX5_simulate 66 = .ok (.l2i, 1) := by decide +kernel
theorem dX5_simulate_67 : decode cX5_simulate 67 = .ok (.invokestatic 327, 3) := by decide +kernel
theorem dX5_simulate_70 : decode cX5_simulate 70 = .ok (.pop, 1) := by decide +kernel
theorem dX5_simulate_71 : decode cX5_simulate 71 = .ok (.iinc 6 1, 3) := by decide +kernel
theorem dX5_simulate_74 : decode cX5_simulate 74 = .ok (.goto (-35), 3) := by decide +kernel
theorem dX5_simulate_77 : decode cX5_simulate 77 = .ok (.aload_n 0, 1) := by decide +kernel
theorem dX5_simulate_78 : decode cX5_simulate 78 = .ok (.getfield 23, 3) := by decide +kernel
theorem dX5_simulate_81 : decode cX5_simulate 81 = .ok (.getfield 93, 3) := by decide +kernel
theorem dX5_simulate_84 : decode cX5_simulate 84 = .ok (.invokevirtual 103, 3) := by decide +kernel
theorem dX5_simulate_87 : decode cX5_simulate 87 = .ok (.aload_n 0, 1) := by decide +kernel
theorem dX5_simulate_88 : decode cX5_simulate 88 = .ok (.getfield 19, 3) := by decide +kernel
theorem dX5_simulate_91 : decode cX5_simulate 91 = .ok (.getfield 93, 3) := by decide +kernel
theorem dX5_simulate_94 : decode cX5_simulate 94 = .ok (.invokevirtual 103, 3) := by decide +kernel
theorem dX5_simulate_97 : decode cX5_simulate 97 = .ok (.isub, 1) := by decide +kernel
theorem dX5_simulate_98 : decode cX5_simulate 98 = .ok (.istore 6, 2) := by decide +kernel
theorem dX5_simulate_100 : decode cX5_simulate 100 = .ok (.aload_n 0, 1) := by decide +kernel
theorem dX5_simulate_101 : decode cX5_simulate 101 = .ok (.getfield 23, 3) := by decide +kernel
theorem dX5_simulate_104 : decode cX5_simulate 104 = .ok (.getfield 93, 3) := by decide +kernel
theorem dX5_simulate_107 : decode cX5_simulate 107 = .ok (.iconst 4, 1) := by decide +kernel
theorem dX5_simulate_108 : decode cX5_simulate 108 = .ok (.invokevirtual 97, 3) := by decide +kernel
theorem dX5_simulate_111 : decode cX5_simulate 111 = .ok (.aload_n 0, 1) := by decide +kernel
theorem dX5_simulate_112 : decode cX5_simulate 112 = .ok (.getfield 19, 3) := by decide +kernel
theorem dX5_simulate_115 : decode cX5_simulate 115 = .ok (.getfield 93, 3) := by decide +kernel
theorem dX5_simulate_118 : decode cX5_simulate 118 = .ok (.iconst 4, 1) := by decide +kernel
theorem dX5_simulate_119 : decode cX5_simulate 119 = .ok (.invokevirtual 97, 3) := by decide +kernel
theorem dX5_simulate_122 : decode cX5_simulate 122 = .ok (.isub, 1) := by decide +kernel
theorem dX5_simulate_123 : decode cX5_simulate 123 = .ok (.istore 7, 2) := by decide +kernel
theorem dX5_simulate_125 : decode cX5_simulate 125 = .ok (.sipush 1000, 3) := by decide +kernel
theorem dX5_simulate_128 : decode cX5_simulate 128 = .ok (.iload 6, 2) := by decide +kernel
theorem dX5_simulate_130 : decode cX5_simulate 130 = .ok (.imul, 1) := by decide +kernel
theorem dX5_simulate_131 : decode cX5_simulate 131 = .ok (.iload 7, 2) := by decide +kernel
theorem dX5_simulate_133 : decode cX5_simulate 133 = .ok (.iadd, 1) := by decide +kernel
theorem dX5_simulate_134 : decode cX5_simulate 134 = .ok (.ireturn, 1) := by decide +kernel
set_option maxRecDepth 20000 in
theorem ggX5_save_X2_copyFrom : GoodIn wsX5_save wsX2_copyFrom := goodIn_r _ [11, 12, 13, 14, 15, 16, 17, 18, 19, 20, 21, 22, 23, 24, 25, 26, 27, 28, 29, 30, 31, 10, 32, 33, 34, 35, 36, 37, 38, 39, 40, 41, 42, 49, 50, 51, 52, 53, 54, 55, 56, 57, 58, 59, 60, 61, 62, 63, 64, 65] (by decide +kernel) (by decide +kernel)
set_option maxRecDepth 20000 in
theorem gX5_save_X2_copyFrom : GoodIn wsX5_save (wsV RX5 283 RX2 yX2_copyFrom wsX2_copyFrom) := goodIn_app (goodIn_of _ (by decide +kernel)) ggX5_save_X2_copyFrom
theorem dX5_save_0 : decode cX5_save 0 = .ok (.iload_n 1, 1) := by decide +kernel
theorem dX5_save_1 : decode cX5_save 1 = .ok (.ifCond .lt 8, 3) := by decide +kernel
theorem dX5_save_4 : decode cX5_save 4 = .ok (.iload_n 1, 1) := by decide +kernel
theorem dX5_save_5 : decode cX5_save 5 = .ok (.iconst 2, 1) := by decide +kernel
theorem dX5_save_6 : decode cX5_save 6 = .ok (.if_icmp .lt 14, 3) := by decide +kernel
theorem dX5_save_9 : decode cX5_save 9 = .ok (.new 330, 3) := by decide +kernel
theorem dX5_save_12 : decode cX5_save 12 = .ok (.dup, 1) := by decide +kernel
theorem dX5_save_13 : decode cX5_save 13 = .ok (.ldc_w 332, 3) := by decide +kernel
theorem dX5_save_16 : decode cX5_save 16 = .ok (.invokespecial 334, 3) := by decide +kernel
theorem dX5_save_19 : decode cX5_save 19 = .ok (.athrow, 1) := by decide +kernel
theorem dX5_save_20 : decode cX5_save 20 = .ok (.aload_n 0, 1) := by decide +kernel
theorem dX5_save_21 : decode cX5_save 21 = .ok (.getfield 33, 3) := by decide +kernel
theorem dX5_save_24 : decode cX5_save 24 = .ok (.iload_n 1, 1) := by decide +kernel
theorem dX5_save_25 : decode cX5_save 25 = .ok (.aaload, 1) := by decide +kernel
theorem dX5_save_26 : decode cX5_save 26 = .ok (.aload_n 0, 1) := by decide +kernel
theorem dX5_save_27 : decode cX5_save 27 = .ok (.getfield 19, 3) := by decide +kernel
theorem dX5_save_30 : decode cX5_save 30 = .ok (.invokevirtual 283, 3) := by decide +kernel
theorem dX5_save_33 : decode cX5_save 33 = .ok (.aload_n 0, 1) := by decide +kernel
theorem dX5_save_34 : decode cX5_save 34 = .ok (.getfield 37, 3) := by decide +kernel
theorem dX5_save_37 : decode cX5_save 37 = .ok (.iload_n 1, 1) := by decide +kernel
theorem dX5_save_38 : decode cX5_save 38 = .ok (.iconst 1, 1) := by decide +kernel
theorem dX5_save_39 : decode cX5_save 39 = .ok (.bastore, 1) := by decide +kernel
theorem dX5_save_40 : decode cX5_save 40 = .ok (.aload_n 0, 1) := by decide +kernel
theorem dX5_save_41 : decode cX5_save 41 = .ok (.getfield 19, 3) := by decide +kernel
theorem dX5_save_44 : decode cX5_save 44 = .ok (.getfield 87, 3) := by decide +kernel
theorem dX5_save_47 : decode cX5_save 47 = .ok (.ireturn, 1) := by decide +kernel
set_option maxRecDepth 20000 in
theorem ggX5_restore_X2_copyFrom : GoodIn wsX5_restore wsX2_copyFrom := goodIn_r _ [14, 15, 16, 17, 18, 19, 20, 21, 22, 23, 24, 25, 26, 27, 28, 29, 30, 31, 32, 33, 34, 13, 35, 36, 37, 38, 39, 40, 41, 42, 43, 44, 45, 58, 59, 60, 61, 62, 63, 64, 65, 66, 67, 68, 69, 70, 71, 72, 73, 74] (by decide +kernel) (by decide +kernel)
set_option maxRecDepth 20000 in
theorem gX5_restore_X2_copyFrom : GoodIn wsX5_restore (wsV RX5 283 RX2 yX2_copyFrom wsX2_copyFrom) := goodIn_app (goodIn_of _ (by decide +kernel)) ggX5_restore_X2_copyFrom
set_option maxRecDepth 20000 in
theorem ggX5_restore_X1_clear : GoodIn wsX5_restore wsX1_clear := goodIn_r _ [50, 51, 75, 76, 77] (by decide +kernel) (by decide +kernel)
set_option maxRecDepth 20000 in
theorem gX5_restore_X1_clear : GoodIn wsX5_restore (wsV RX5 70 RX1 yX1_clear wsX1_clear) := goodIn_app (goodIn_of _ (by decide +kernel)) ggX5_restore_X1_clear
theorem dX5_restore_0 : decode cX5_restore 0 = .ok (.iload_n 1, 1) := by decide +kernel
theorem dX5_restore_1 : decode cX5_restore 1 = .ok (.ifCond .lt 8, 3) := by decide +kernel
theorem dX5_restore_4 : decode cX5_restore 4 = .ok (.iload_n 1, 1) := by decide +kernel
theorem dX5_restore_5 : decode cX5_restore 5 = .ok (.iconst 2, 1) := by decide +kernel
theorem dX5_restore_6 : decode cX5_restore 6 = .ok (.if_icmp .lt 14, 3) := by decide +kernel
theorem dX5_restore_9 : decode cX5_restore 9 = .ok (.new 330, 3) := by decide +kernel
theorem dX5_restore_12 : decode cX5_restore 12 = .ok (.dup, 1) := by decide +kernel
theorem dX5_restore_13 : decode cX5_restore 13 = .ok (.ldc_w 332, 3) := by decide +kernel
theorem dX5_restore_16 : decode cX5_restore 16 = .ok (.invokespecial 334, 3) := by decide +kernel
theorem dX5_restore_19 : decode cX5_restore 19 = .ok (.athrow, 1) := by decide +kernel
theorem dX5_restore_20 : decode cX5_restore 20 = .ok (.aload_n 0, 1) := by decide +kernel
theorem dX5_restore_21 : decode cX5_restore 21 = .ok (.getfield 37, 3) := by decide +kernel
theorem dX5_restore_24 : decode cX5_restore 24 = .ok (.iload_n 1, 1) := by decide +kernel
theorem dX5_restore_25 : decode cX5_restore 25 = .ok (.baload, 1) := by decide +kernel
theorem dX5_restore_26 : decode cX5_restore 26 = .ok (.ifCond .ne 14, 3) := by decide +kernel
theorem dX5_restore_29 : decode cX5_restore 29 = .ok (.new 52, 3) := by decide +kernel
theorem dX5_restore_32 : decode cX5_restore 32 = .ok (.dup, 1) := by decide +kernel
theorem dX5_restore_33 : decode cX5_restore 33 = .ok (.ldc_w 335, 3) := by decide +kernel
theorem dX5_restore_36 : decode cX5_restore 36 = .ok (.invokespecial 56, 3) := by decide +kernel
theorem dX5_restore_39 : decode cX5_restore 39 = .ok (.athrow, 1) := by decide +kernel
theorem dX5_restore_40 : decode cX5_restore 40 = .ok (.aload_n 0, 1) := by decide +kernel
theorem dX5_restore_41 : decode cX5_restore 41 = .ok (.getfield 19, 3) := by decide +kernel
theorem dX5_restore_44 : decode cX5_restore 44 = .ok (.aload_n 0, 1) := by decide +kernel
theorem dX5_restore_45 : decode cX5_restore 45 = .ok (.getfield 33, 3) := by decide +kernel
theorem dX5_restore_48 : decode cX5_restore 48 = .ok (.iload_n 1, 1) := by decide +kernel
theorem dX5_restore_49 : decode cX5_restore 49 = .ok (.aaload, 1) := by decide +kernel
theorem dX5_restore_50 : decode cX5_restore 50 = .ok (.invokevirtual 283, 3) := by decide +kernel
theorem dX5_restore_53 : decode cX5_restore 53 = .ok (.aload_n 0, 1) := by decide +kernel
theorem dX5_restore_54 : decode cX5_restore 54 = .ok (.getfield 29, 3) := by decide +kernel
theorem dX5_restore_57 : decode cX5_restore 57 = .ok (.invokevirtual 70, 3) := by decide +kernel
theorem dX5_restore_60 : decode cX5_restore 60 = .ok (.aload_n 0, 1) := by decide +kernel
theorem dX5_restore_61 : decode cX5_restore 61 = .ok (.getfield 19, 3) := by decide +kernel
theorem dX5_restore_64 : decode cX5_restore 64 = .ok (.getfield 87, 3) := by decide +kernel
theorem dX5_restore_67 : decode cX5_restore 67 = .ok (.ireturn, 1) := by decide +kernel
set_option maxRecDepth 20000 in
theorem ggX5_beginAction_X5_requireFine : GoodIn wsX5_beginAction wsX5_requireFine := goodIn_ca (goodIn_ca (goodIn_ca (goodIn_r _ [6, 7, 8, 9, 10, 11, 12] (by decide +kernel) (by decide +kernel)) (goodIn_sub (fun _ h => List.mem_cons_of_mem _ (List.mem_append_left _ (List.mem_append_left _ (List.mem_append_right _ h)))) (by decide +kernel))) (goodIn_sub (fun _ h => List.mem_cons_of_mem _ (List.mem_append_left _ (List.mem_append_right _ h))) (by decide +kernel))) (goodIn_sub (fun _ h => List.mem_cons_of_mem _ (List.mem_append_right _ h)) (by decide +kernel))
set_option maxRecDepth 20000 in
theorem gX5_beginAction_X5_requireFine : GoodIn wsX5_beginAction (va_wsS RX5 296 yX5_requireFine wsX5_requireFine) := goodIn_app (goodIn_of _ (by decide +kernel)) ggX5_beginAction_X5_requireFine
set_option maxRecDepth 20000 in
theorem ggX5_beginAction_X1_remember : GoodIn wsX5_beginAction wsX1_remember := goodIn_r _ [17, 18, 19, 20, 21, 22, 23, 24, 25, 26, 27, 28, 29, 30, 31, 32, 33, 34, 35, 36, 37, 38, 39, 40, 41, 42, 43, 44, 45, 46, 47, 48, 49, 50, 51, 52, 53, 54, 55, 56, 63, 64, 65, 66, 67, 68, 69, 70, 71, 72, 73, 74, 75, 76, 77, 78, 79, 80, 81, 82] (by decide +kernel) (by decide +kernel)
set_option maxRecDepth 20000 in
theorem gX5_beginAction_X1_remember : GoodIn wsX5_beginAction (wsV RX5 337 RX1 yX1_remember wsX1_remember) := goodIn_app (goodIn_of _ (by decide +kernel)) ggX5_beginAction_X1_remember
theorem dX5_beginAction_0 : decode cX5_beginAction 0 = .ok (.iload_n 1, 1) := by decide +kernel
theorem dX5_beginAction_1 : decode cX5_beginAction 1 = .ok (.invokestatic 296, 3) := by decide +kernel
theorem dX5_beginAction_4 : decode cX5_beginAction 4 = .ok (.aload_n 0, 1) := by decide +kernel
theorem dX5_beginAction_5 : decode cX5_beginAction 5 = .ok (.getfield 29, 3) := by decide +kernel
theorem dX5_beginAction_8 : decode cX5_beginAction 8 = .ok (.aload_n 0, 1) := by decide +kernel
theorem dX5_beginAction_9 : decode cX5_beginAction 9 = .ok (.getfield 19, 3) := by decide +kernel
theorem dX5_beginAction_12 : decode cX5_beginAction 12 = .ok (.invokevirtual 337, 3) := by decide +kernel
theorem dX5_beginAction_15 : decode cX5_beginAction 15 = .ok (.return_, 1) := by decide +kernel
set_option maxRecDepth 20000 in
theorem ggX5_requireChild_X2_hasChild : GoodIn wsX5_requireChild wsX2_hasChild := goodIn_r _ [8, 9, 16, 17, 18, 19, 20, 21, 22, 23, 24, 25, 26, 27, 28, 29] (by decide +kernel) (by decide +kernel)
set_option maxRecDepth 20000 in
theorem gX5_requireChild_X2_hasChild : GoodIn wsX5_requireChild (wsV RX5 340 RX2 yX2_hasChild wsX2_hasChild) := goodIn_app (goodIn_of _ (by decide +kernel)) ggX5_requireChild_X2_hasChild
theorem dX5_requireChild_0 : decode cX5_requireChild 0 = .ok (.aload_n 0, 1) := by decide +kernel
theorem dX5_requireChild_1 : decode cX5_requireChild 1 = .ok (.getfield 19, 3) := by decide +kernel
theorem dX5_requireChild_4 : decode cX5_requireChild 4 = .ok (.iload_n 1, 1) := by decide +kernel
theorem dX5_requireChild_5 : decode cX5_requireChild 5 = .ok (.invokevirtual 340, 3) := by decide +kernel
theorem dX5_requireChild_8 : decode cX5_requireChild 8 = .ok (.ifCond .ne 14, 3) := by decide +kernel
theorem dX5_requireChild_11 : decode cX5_requireChild 11 = .ok (.new 330, 3) := by decide +kernel
theorem dX5_requireChild_14 : decode cX5_requireChild 14 = .ok (.dup, 1) := by decide +kernel
theorem dX5_requireChild_15 : decode cX5_requireChild 15 = .ok (.ldc_w 344, 3) := by decide +kernel
theorem dX5_requireChild_18 : decode cX5_requireChild 18 = .ok (.invokespecial 334, 3) := by decide +kernel
theorem dX5_requireChild_21 : decode cX5_requireChild 21 = .ok (.athrow, 1) := by decide +kernel
theorem dX5_requireChild_22 : decode cX5_requireChild 22 = .ok (.return_, 1) := by decide +kernel
set_option maxRecDepth 20000 in
theorem ggX5_requireFamily_X5_isFamily : GoodIn wsX5_requireFamily wsX5_isFamily := goodIn_r _ [6] (by decide +kernel) (by decide +kernel)
set_option maxRecDepth 20000 in
theorem gX5_requireFamily_X5_isFamily : GoodIn wsX5_requireFamily (va_wsS RX5 346 yX5_isFamily wsX5_isFamily) := goodIn_app (goodIn_of _ (by decide +kernel)) ggX5_requireFamily_X5_isFamily
theorem dX5_requireFamily_0 : decode cX5_requireFamily 0 = .ok (.iload_n 0, 1) := by decide +kernel
theorem dX5_requireFamily_1 : decode cX5_requireFamily 1 = .ok (.invokestatic 346, 3) := by decide +kernel
theorem dX5_requireFamily_4 : decode cX5_requireFamily 4 = .ok (.ifCond .ne 14, 3) := by decide +kernel
theorem dX5_requireFamily_7 : decode cX5_requireFamily 7 = .ok (.new 330, 3) := by decide +kernel
theorem dX5_requireFamily_10 : decode cX5_requireFamily 10 = .ok (.dup, 1) := by decide +kernel
theorem dX5_requireFamily_11 : decode cX5_requireFamily 11 = .ok (.ldc_w 349, 3) := by decide +kernel
theorem dX5_requireFamily_14 : decode cX5_requireFamily 14 = .ok (.invokespecial 334, 3) := by decide +kernel
theorem dX5_requireFamily_17 : decode cX5_requireFamily 17 = .ok (.athrow, 1) := by decide +kernel
theorem dX5_requireFamily_18 : decode cX5_requireFamily 18 = .ok (.return_, 1) := by decide +kernel
set_option maxRecDepth 20000 in
theorem ggX5_requireDay_X5_isDay : GoodIn wsX5_requireDay wsX5_isDay := goodIn_r _ [6] (by decide +kernel) (by decide +kernel)
set_option maxRecDepth 20000 in
theorem gX5_requireDay_X5_isDay : GoodIn wsX5_requireDay (va_wsS RX5 351 yX5_isDay wsX5_isDay) := goodIn_app (goodIn_of _ (by decide +kernel)) ggX5_requireDay_X5_isDay
theorem dX5_requireDay_0 : decode cX5_requireDay 0 = .ok (.iload_n 0, 1) := by decide +kernel
theorem dX5_requireDay_1 : decode cX5_requireDay 1 = .ok (.invokestatic 351, 3) := by decide +kernel
theorem dX5_requireDay_4 : decode cX5_requireDay 4 = .ok (.ifCond .ne 14, 3) := by decide +kernel
theorem dX5_requireDay_7 : decode cX5_requireDay 7 = .ok (.new 330, 3) := by decide +kernel
theorem dX5_requireDay_10 : decode cX5_requireDay 10 = .ok (.dup, 1) := by decide +kernel
theorem dX5_requireDay_11 : decode cX5_requireDay 11 = .ok (.ldc_w 354, 3) := by decide +kernel
theorem dX5_requireDay_14 : decode cX5_requireDay 14 = .ok (.invokespecial 334, 3) := by decide +kernel
theorem dX5_requireDay_17 : decode cX5_requireDay 17 = .ok (.athrow, 1) := by decide +kernel
theorem dX5_requireDay_18 : decode cX5_requireDay 18 = .ok (.return_, 1) := by decide +kernel
theorem dX5_requireFine_0 : decode cX5_requireFine 0 = .ok (.iload_n 0, 1) := by decide +kernel
theorem dX5_requireFine_1 : decode cX5_requireFine 1 = .ok (.tableswitch 60 1 3 #[27, 38, 49], 27) := by decide +kernel
theorem dX5_requireFine_28 : decode cX5_requireFine 28 = .ok (.new 330, 3) := by decide +kernel
theorem dX5_requireFine_31 : decode cX5_requireFine 31 = .ok (.dup, 1) := by decide +kernel
theorem dX5_requireFine_32 : decode cX5_requireFine 32 = .ok (.ldc_w 356, 3) := by decide +kernel
theorem dX5_requireFine_35 : decode cX5_requireFine 35 = .ok (.invokespecial 334, 3) := by decide +kernel
theorem dX5_requireFine_38 : decode cX5_requireFine 38 = .ok (.athrow, 1) := by decide +kernel
theorem dX5_requireFine_39 : decode cX5_requireFine 39 = .ok (.new 41, 3) := by decide +kernel
theorem dX5_requireFine_42 : decode cX5_requireFine 42 = .ok (.dup, 1) := by decide +kernel
theorem dX5_requireFine_43 : decode cX5_requireFine 43 = .ok (.ldc_w 358, 3) := by decide +kernel
theorem dX5_requireFine_46 : decode cX5_requireFine 46 = .ok (.invokespecial 45, 3) := by decide +kernel
theorem dX5_requireFine_49 : decode cX5_requireFine 49 = .ok (.athrow, 1) := by decide +kernel
theorem dX5_requireFine_50 : decode cX5_requireFine 50 = .ok (.new 52, 3) := by decide +kernel
theorem dX5_requireFine_53 : decode cX5_requireFine 53 = .ok (.dup, 1) := by decide +kernel
theorem dX5_requireFine_54 : decode cX5_requireFine 54 = .ok (.ldc_w 360, 3) := by decide +kernel
theorem dX5_requireFine_57 : decode cX5_requireFine 57 = .ok (.invokespecial 56, 3) := by decide +kernel
theorem dX5_requireFine_60 : decode cX5_requireFine 60 = .ok (.athrow, 1) := by decide +kernel
theorem dX5_requireFine_61 : decode cX5_requireFine 61 = .ok (.return_, 1) := by decide +kernel
theorem dX5_faultOfSet_0 : decode cX5_faultOfSet 0 = .ok (.iload_n 0, 1) := by decide +kernel
theorem dX5_faultOfSet_1 : decode cX5_faultOfSet 1 = .ok (.ifCond .ne 15, 3) := by decide +kernel
theorem dX5_faultOfSet_4 : decode cX5_faultOfSet 4 = .ok (.iload_n 1, 1) := by decide +kernel
theorem dX5_faultOfSet_5 : decode cX5_faultOfSet 5 = .ok (.iconst 1, 1) := by decide +kernel
theorem dX5_faultOfSet_6 : decode cX5_faultOfSet 6 = .ok (.if_icmp .lt 10, 3) := by decide +kernel
theorem dX5_faultOfSet_9 : decode cX5_faultOfSet 9 = .ok (.iload_n 1, 1) := by decide +kernel
theorem dX5_faultOfSet_10 : decode cX5_faultOfSet 10 = .ok (.sipush 999, 3) := by decide +kernel
theorem dX5_faultOfSet_13 : decode cX5_faultOfSet 13 = .ok (.if_icmp .le 19, 3) := by decide +kernel
theorem dX5_faultOfSet_16 : decode cX5_faultOfSet 16 = .ok (.iload_n 0, 1) := by decide +kernel
theorem dX5_faultOfSet_17 : decode cX5_faultOfSet 17 = .ok (.iconst 1, 1) := by decide +kernel
theorem dX5_faultOfSet_18 : decode cX5_faultOfSet 18 = .ok (.if_icmp .ne 18, 3) := by decide +kernel
theorem dX5_faultOfSet_21 : decode cX5_faultOfSet 21 = .ok (.iload_n 1, 1) := by decide +kernel
theorem dX5_faultOfSet_22 : decode cX5_faultOfSet 22 = .ok (.ifCond .lt 14, 3) := by decide +kernel
theorem dX5_faultOfSet_25 : decode cX5_faultOfSet 25 = .ok (.iload_n 1, 1) := by decide +kernel
theorem dX5_faultOfSet_26 : decode cX5_faultOfSet 26 = .ok (.sipush 9999, 3) := by decide +kernel
theorem dX5_faultOfSet_29 : decode cX5_faultOfSet 29 = .ok (.if_icmp .gt 7, 3) := by decide +kernel
theorem dX5_faultOfSet_32 : decode cX5_faultOfSet 32 = .ok (.iconst 1, 1) := by decide +kernel
theorem dX5_faultOfSet_33 : decode cX5_faultOfSet 33 = .ok (.goto 4, 3) := by decide +kernel
theorem dX5_faultOfSet_36 : decode cX5_faultOfSet 36 = .ok (.iconst 0, 1) := by decide +kernel
theorem dX5_faultOfSet_37 : decode cX5_faultOfSet 37 = .ok (.istore_n 2, 1) := by decide +kernel
theorem dX5_faultOfSet_38 : decode cX5_faultOfSet 38 = .ok (.iload_n 2, 1) := by decide +kernel
theorem dX5_faultOfSet_39 : decode cX5_faultOfSet 39 = .ok (.ifCond .eq 7, 3) := by decide +kernel
theorem dX5_faultOfSet_42 : decode cX5_faultOfSet 42 = .ok (.iconst 0, 1) := by decide +kernel
theorem dX5_faultOfSet_43 : decode cX5_faultOfSet 43 = .ok (.goto 4, 3) := by decide +kernel
theorem dX5_faultOfSet_46 : decode cX5_faultOfSet 46 = .ok (.iconst 2, 1) := by decide +kernel
theorem dX5_faultOfSet_47 : decode cX5_faultOfSet 47 = .ok (.ireturn, 1) := by decide +kernel
theorem dX5_isFamily_0 : decode cX5_isFamily 0 = .ok (.iload_n 0, 1) := by decide +kernel
theorem dX5_isFamily_1 : decode cX5_isFamily 1 = .ok (.ifCond .lt 12, 3) := by decide +kernel
theorem dX5_isFamily_4 : decode cX5_isFamily 4 = .ok (.iload_n 0, 1) := by decide +kernel
theorem dX5_isFamily_5 : decode cX5_isFamily 5 = .ok (.iconst 5, 1) := by decide +kernel
theorem dX5_isFamily_6 : decode cX5_isFamily 6 = .ok (.if_icmp .ge 7, 3) := by decide +kernel
theorem dX5_isFamily_9 : decode cX5_isFamily 9 = .ok (.iconst 1, 1) := by decide +kernel
theorem dX5_isFamily_10 : decode cX5_isFamily 10 = .ok (.goto 4, 3) := by decide +kernel
theorem dX5_isFamily_13 : decode cX5_isFamily 13 = .ok (.iconst 0, 1) := by decide +kernel
theorem dX5_isFamily_14 : decode cX5_isFamily 14 = .ok (.ireturn, 1) := by decide +kernel
theorem dX5_isDay_0 : decode cX5_isDay 0 = .ok (.iload_n 0, 1) := by decide +kernel
theorem dX5_isDay_1 : decode cX5_isDay 1 = .ok (.ifCond .lt 13, 3) := by decide +kernel
theorem dX5_isDay_4 : decode cX5_isDay 4 = .ok (.iload_n 0, 1) := by decide +kernel
theorem dX5_isDay_5 : decode cX5_isDay 5 = .ok (.bipush 40, 2) := by decide +kernel
theorem dX5_isDay_7 : decode cX5_isDay 7 = .ok (.if_icmp .ge 7, 3) := by decide +kernel
theorem dX5_isDay_10 : decode cX5_isDay 10 = .ok (.iconst 1, 1) := by decide +kernel
theorem dX5_isDay_11 : decode cX5_isDay 11 = .ok (.goto 4, 3) := by decide +kernel
theorem dX5_isDay_14 : decode cX5_isDay 14 = .ok (.iconst 0, 1) := by decide +kernel
theorem dX5_isDay_15 : decode cX5_isDay 15 = .ok (.ireturn, 1) := by decide +kernel
theorem dJ9_max_7cf53_0 : decode cJ9_max_7cf53 0 = .ok (.iload_n 0, 1) := by decide +kernel
theorem dJ9_max_7cf53_1 : decode cJ9_max_7cf53 1 = .ok (.iload_n 1, 1) := by decide +kernel
theorem dJ9_max_7cf53_2 : decode cJ9_max_7cf53 2 = .ok (.if_icmp .lt 7, 3) := by decide +kernel
theorem dJ9_max_7cf53_5 : decode cJ9_max_7cf53 5 = .ok (.iload_n 0, 1) := by decide +kernel
theorem dJ9_max_7cf53_6 : decode cJ9_max_7cf53 6 = .ok (.goto 4, 3) := by decide +kernel
theorem dJ9_max_7cf53_9 : decode cJ9_max_7cf53 9 = .ok (.iload_n 1, 1) := by decide +kernel
theorem dJ9_max_7cf53_10 : decode cJ9_max_7cf53 10 = .ok (.ireturn, 1) := by decide +kernel
set_option maxRecDepth 20000 in
theorem ggJ0_length_8abf5_J0_coder_7d493 : GoodIn wsJ0_length_8abf5 wsJ0_coder_7d493 := goodIn_r _ [6, 7, 8] (by decide +kernel) (by decide +kernel)
set_option maxRecDepth 20000 in
theorem gJ0_length_8abf5_J0_coder_7d493 : GoodIn wsJ0_length_8abf5 (wsV RJ0 335 RJ0 yJ0_coder_7d493 wsJ0_coder_7d493) := goodIn_app (goodIn_of _ (by decide +kernel)) ggJ0_length_8abf5_J0_coder_7d493
theorem dJ0_length_8abf5_0 : decode cJ0_length_8abf5 0 = .ok (.aload_n 0, 1) := by decide +kernel
theorem dJ0_length_8abf5_1 : decode cJ0_length_8abf5 1 = .ok (.getfield 9, 3) := by decide +kernel
theorem dJ0_length_8abf5_4 : decode cJ0_length_8abf5 4 = .ok (.arraylength, 1) := by decide +kernel
theorem dJ0_length_8abf5_5 : decode cJ0_length_8abf5 5 = .ok (.aload_n 0, 1) := by decide +kernel
theorem dJ0_length_8abf5_6 : decode cJ0_length_8abf5 6 = .ok (.invokevirtual 335, 3) := by decide +kernel
theorem dJ0_length_8abf5_9 : decode cJ0_length_8abf5 9 = .ok (.ishr, 1) := by decide +kernel
theorem dJ0_length_8abf5_10 : decode cJ0_length_8abf5 10 = .ok (.ireturn, 1) := by decide +kernel
theorem dJ0_isEmpty_aae02_0 : decode cJ0_isEmpty_aae02 0 = .ok (.aload_n 0, 1) := by decide +kernel
theorem dJ0_isEmpty_aae02_1 : decode cJ0_isEmpty_aae02 1 = .ok (.getfield 9, 3) := by decide +kernel
theorem dJ0_isEmpty_aae02_4 : decode cJ0_isEmpty_aae02 4 = .ok (.arraylength, 1) := by decide +kernel
theorem dJ0_isEmpty_aae02_5 : decode cJ0_isEmpty_aae02 5 = .ok (.ifCond .ne 7, 3) := by decide +kernel
theorem dJ0_isEmpty_aae02_8 : decode cJ0_isEmpty_aae02 8 = .ok (.iconst 1, 1) := by decide +kernel
theorem dJ0_isEmpty_aae02_9 : decode cJ0_isEmpty_aae02 9 = .ok (.goto 4, 3) := by decide +kernel
theorem dJ0_isEmpty_aae02_12 : decode cJ0_isEmpty_aae02 12 = .ok (.iconst 0, 1) := by decide +kernel
theorem dJ0_isEmpty_aae02_13 : decode cJ0_isEmpty_aae02 13 = .ok (.ireturn, 1) := by decide +kernel
set_option maxRecDepth 20000 in
theorem ggJ0_charAt_5068e_J0_isLatin1_aae02 : GoodIn wsJ0_charAt_5068e wsJ0_isLatin1_aae02 := goodIn_r _ [6, 7, 8] (by decide +kernel) (by decide +kernel)
set_option maxRecDepth 20000 in
theorem gJ0_charAt_5068e_J0_isLatin1_aae02 : GoodIn wsJ0_charAt_5068e (wsV RJ0 492 RJ0 yJ0_isLatin1_aae02 wsJ0_isLatin1_aae02) := goodIn_app (goodIn_of _ (by decide +kernel)) ggJ0_charAt_5068e_J0_isLatin1_aae02
set_option maxRecDepth 20000 in
theorem ggJ0_charAt_5068e_J1_charAt_3b067 : GoodIn wsJ0_charAt_5068e wsJ1_charAt_3b067 := goodIn_r _ [12, 13, 14, 5, 15, 16, 17, 18, 19, 20] (by decide +kernel) (by decide +kernel)
set_option maxRecDepth 20000 in
theorem gJ0_charAt_5068e_J1_charAt_3b067 : GoodIn wsJ0_charAt_5068e (va_wsS RJ0 495 yJ1_charAt_3b067 wsJ1_charAt_3b067) := goodIn_app (goodIn_of _ (by decide +kernel)) ggJ0_charAt_5068e_J1_charAt_3b067
set_option maxRecDepth 20000 in
theorem ggJ0_charAt_5068e_J2_charAt_3b067 : GoodIn wsJ0_charAt_5068e wsJ2_charAt_3b067 := goodIn_r _ [24, 25, 26, 23, 27, 28, 29, 30, 31, 14, 5, 15, 16, 17, 18, 19, 20, 32, 33, 34, 35, 36, 37] (by decide +kernel) (by decide +kernel)
set_option maxRecDepth 20000 in
theorem gJ0_charAt_5068e_J2_charAt_3b067 : GoodIn wsJ0_charAt_5068e (va_wsS RJ0 498 yJ2_charAt_3b067 wsJ2_charAt_3b067) := goodIn_app (goodIn_of _ (by decide +kernel)) ggJ0_charAt_5068e_J2_charAt_3b067
theorem dJ0_charAt_5068e_0 : decode cJ0_charAt_5068e 0 = .ok (.aload_n 0, 1) := by decide +kernel
theorem dJ0_charAt_5068e_1 : decode cJ0_charAt_5068e 1 = .ok (.invokevirtual 492, 3) := by decide +kernel
theorem dJ0_charAt_5068e_4 : decode cJ0_charAt_5068e 4 = .ok (.ifCond .eq 12, 3) := by decide +kernel
theorem dJ0_charAt_5068e_7 : decode cJ0_charAt_5068e 7 = .ok (.aload_n 0, 1) := by decide +kernel
theorem dJ0_charAt_5068e_8 : decode cJ0_charAt_5068e 8 = .ok (.getfield 9, 3) := by decide +kernel
theorem dJ0_charAt_5068e_11 : decode cJ0_charAt_5068e 11 = .ok (.iload_n 1, 1) := by decide +kernel
theorem dJ0_charAt_5068e_12 : decode cJ0_charAt_5068e 12 = .ok (.invokestatic 495, 3) := by decide +kernel
theorem dJ0_charAt_5068e_15 : decode cJ0_charAt_5068e 15 = .ok (.ireturn, 1) := by decide +kernel
theorem dJ0_charAt_5068e_16 : decode cJ0_charAt_5068e 16 = .ok (.aload_n 0, 1) := by decide +kernel
theorem dJ0_charAt_5068e_17 : decode cJ0_charAt_5068e 17 = .ok (.getfield 9, 3) := by decide +kernel
theorem dJ0_charAt_5068e_20 : decode cJ0_charAt_5068e 20 = .ok (.iload_n 1, 1) := by decide +kernel
theorem dJ0_charAt_5068e_21 : decode cJ0_charAt_5068e 21 = .ok (.invokestatic 498, 3) := by decide +kernel
theorem dJ0_charAt_5068e_24 : decode cJ0_charAt_5068e 24 = .ok (.ireturn, 1) := by decide +kernel
theorem dJ0_coder_7d493_0 : decode cJ0_coder_7d493 0 = .ok (.getstatic 38, 3) := by decide +kernel
theorem dJ0_coder_7d493_3 : decode cJ0_coder_7d493 3 = .ok (.ifCond .eq 10, 3) := by decide +kernel
theorem dJ0_coder_7d493_6 : decode cJ0_coder_7d493 6 = .ok (.aload_n 0, 1) := by decide +kernel
theorem dJ0_coder_7d493_7 : decode cJ0_coder_7d493 7 = .ok (.getfield 15, 3) := by decide +kernel
theorem dJ0_coder_7d493_10 : decode cJ0_coder_7d493 10 = .ok (.goto 4, 3) := by decide +kernel
theorem dJ0_coder_7d493_13 : decode cJ0_coder_7d493 13 = .ok (.iconst 1, 1) := by decide +kernel
theorem dJ0_coder_7d493_14 : decode cJ0_coder_7d493 14 = .ok (.ireturn, 1) := by decide +kernel
theorem dJ0_isLatin1_aae02_0 : decode cJ0_isLatin1_aae02 0 = .ok (.getstatic 38, 3) := by decide +kernel
theorem dJ0_isLatin1_aae02_3 : decode cJ0_isLatin1_aae02 3 = .ok (.ifCond .eq 14, 3) := by decide +kernel
theorem dJ0_isLatin1_aae02_6 : decode cJ0_isLatin1_aae02 6 = .ok (.aload_n 0, 1) := by decide +kernel
theorem dJ0_isLatin1_aae02_7 : decode cJ0_isLatin1_aae02 7 = .ok (.getfield 15, 3) := by decide +kernel
theorem dJ0_isLatin1_aae02_10 : decode cJ0_isLatin1_aae02 10 = .ok (.ifCond .ne 7, 3) := by decide +kernel
theorem dJ0_isLatin1_aae02_13 : decode cJ0_isLatin1_aae02 13 = .ok (.iconst 1, 1) := by decide +kernel
theorem dJ0_isLatin1_aae02_14 : decode cJ0_isLatin1_aae02 14 = .ok (.goto 4, 3) := by decide +kernel
theorem dJ0_isLatin1_aae02_17 : decode cJ0_isLatin1_aae02 17 = .ok (.iconst 0, 1) := by decide +kernel
theorem dJ0_isLatin1_aae02_18 : decode cJ0_isLatin1_aae02 18 = .ok (.ireturn, 1) := by decide +kernel
set_option maxRecDepth 20000 in
theorem ggJ0_checkIndex_df160_J3_checkIndex_8e157 : GoodIn wsJ0_checkIndex_df160 wsJ3_checkIndex_8e157 := goodIn_r _ [5] (by decide +kernel) (by decide +kernel)
set_option maxRecDepth 20000 in
theorem gJ0_checkIndex_df160_J3_checkIndex_8e157 : GoodIn wsJ0_checkIndex_df160 (va_wsS RJ0 1059 yJ3_checkIndex_8e157 wsJ3_checkIndex_8e157) := goodIn_app (goodIn_of _ (by decide +kernel)) ggJ0_checkIndex_df160_J3_checkIndex_8e157
theorem dJ0_checkIndex_df160_0 : decode cJ0_checkIndex_df160 0 = .ok (.iload_n 0, 1) := by decide +kernel
theorem dJ0_checkIndex_df160_1 : decode cJ0_checkIndex_df160 1 = .ok (.iload_n 1, 1) := by decide +kernel
theorem dJ0_checkIndex_df160_2 : decode cJ0_checkIndex_df160 2 = .ok (.getstatic 1053, 3) := by decide +kernel
theorem dJ0_checkIndex_df160_5 : decode cJ0_checkIndex_df160 5 = .ok (.invokestatic 1059, 3) := by decide +kernel
theorem dJ0_checkIndex_df160_8 : decode cJ0_checkIndex_df160 8 = .ok (.pop, 1) := by decide +kernel
theorem dJ0_checkIndex_df160_9 : decode cJ0_checkIndex_df160 9 = .ok (.return_, 1) := by decide +kernel
set_option maxRecDepth 20000 in
theorem ggJ1_charAt_3b067_J0_checkIndex_df160 : GoodIn wsJ1_charAt_3b067 wsJ0_checkIndex_df160 := goodIn_r _ [4, 5, 6, 7, 8, 9] (by decide +kernel) (by decide +kernel)
set_option maxRecDepth 20000 in
theorem gJ1_charAt_3b067_J0_checkIndex_df160 : GoodIn wsJ1_charAt_3b067 (va_wsS RJ1 9 yJ0_checkIndex_df160 wsJ0_checkIndex_df160) := goodIn_app (goodIn_of _ (by decide +kernel)) ggJ1_charAt_3b067_J0_checkIndex_df160
theorem dJ1_charAt_3b067_0 : decode cJ1_charAt_3b067 0 = .ok (.iload_n 1, 1) := by decide +kernel
theorem dJ1_charAt_3b067_1 : decode cJ1_charAt_3b067 1 = .ok (.aload_n 0, 1) := by decide +kernel
theorem dJ1_charAt_3b067_2 : decode cJ1_charAt_3b067 2 = .ok (.arraylength, 1) := by decide +kernel
theorem dJ1_charAt_3b067_3 : decode cJ1_charAt_3b067 3 = .ok (.invokestatic 9, 3) := by decide +kernel
theorem dJ1_charAt_3b067_6 : decode cJ1_charAt_3b067 6 = .ok (.aload_n 0, 1) := by decide +kernel
theorem dJ1_charAt_3b067_7 : decode cJ1_charAt_3b067 7 = .ok (.iload_n 1, 1) := by decide +kernel
theorem dJ1_charAt_3b067_8 : decode cJ1_charAt_3b067 8 = .ok (.baload, 1) := by decide +kernel
theorem dJ1_charAt_3b067_9 : decode cJ1_charAt_3b067 9 = .ok (.sipush 255, 3) := by decide +kernel
theorem dJ1_charAt_3b067_12 : decode cJ1_charAt_3b067 12 = .ok (.iand, 1) := by decide +kernel
theorem dJ1_charAt_3b067_13 : decode cJ1_charAt_3b067 13 = .ok (.i2c, 1) := by decide +kernel
theorem dJ1_charAt_3b067_14 : decode cJ1_charAt_3b067 14 = .ok (.ireturn, 1) := by decide +kernel
set_option maxRecDepth 20000 in
theorem ggJ2_getChar_3b067_J2_length_9d52b : GoodIn wsJ2_getChar_3b067 wsJ2_length_9d52b := goodIn_r _ [7] (by decide +kernel) (by decide +kernel)
set_option maxRecDepth 20000 in
theorem gJ2_getChar_3b067_J2_length_9d52b : GoodIn wsJ2_getChar_3b067 (va_wsS RJ2 48 yJ2_length_9d52b wsJ2_length_9d52b) := goodIn_app (goodIn_of _ (by decide +kernel)) ggJ2_getChar_3b067_J2_length_9d52b
theorem dJ2_getChar_3b067_0 : decode cJ2_getChar_3b067 0 = .ok (.getstatic 44, 3) := by decide +kernel
theorem dJ2_getChar_3b067_3 : decode cJ2_getChar_3b067 3 = .ok (.ifCond .ne 25, 3) := by decide +kernel
theorem dJ2_getChar_3b067_6 : decode cJ2_getChar_3b067 6 = .ok (.iload_n 1, 1) := by decide +kernel
theorem dJ2_getChar_3b067_7 : decode cJ2_getChar_3b067 7 = .ok (.ifCond .lt 11, 3) := by decide +kernel
theorem dJ2_getChar_3b067_10 : decode cJ2_getChar_3b067 10 = .ok (.iload_n 1, 1) := by decide +kernel
theorem dJ2_getChar_3b067_11 : decode cJ2_getChar_3b067 11 = .ok (.aload_n 0, 1) := by decide +kernel
theorem dJ2_getChar_3b067_12 : decode cJ2_getChar_3b067 12 = .ok (.invokestatic 48, 3) := by decide +kernel
theorem dJ2_getChar_3b067_15 : decode cJ2_getChar_3b067 15 = .ok (.if_icmp .lt 13, 3) := by decide +kernel
theorem dJ2_getChar_3b067_18 : decode cJ2_getChar_3b067 18 = .ok (.new 52, 3) := by decide +kernel
theorem dJ2_getChar_3b067_21 : decode cJ2_getChar_3b067 21 = .ok (.dup, 1) := by decide +kernel
theorem dJ2_getChar_3b067_22 : decode cJ2_getChar_3b067 22 = .ok (.ldc 54, 2) := by decide +kernel
theorem dJ2_getChar_3b067_24 : decode cJ2_getChar_3b067 24 = .ok (.invokespecial 56, 3) := by decide +kernel
theorem dJ2_getChar_3b067_27 : decode cJ2_getChar_3b067 27 = .ok (.athrow, 1) := by decide +kernel
theorem dJ2_getChar_3b067_28 : decode cJ2_getChar_3b067 28 = .ok (.iload_n 1, 1) := by decide +kernel
theorem dJ2_getChar_3b067_29 : decode cJ2_getChar_3b067 29 = .ok (.iconst 1, 1) := by decide +kernel
theorem dJ2_getChar_3b067_30 : decode cJ2_getChar_3b067 30 = .ok (.ishl, 1) := by decide +kernel
theorem dJ2_getChar_3b067_31 : decode cJ2_getChar_3b067 31 = .ok (.istore_n 1, 1) := by decide +kernel
theorem dJ2_getChar_3b067_32 : decode cJ2_getChar_3b067 32 = .ok (.aload_n 0, 1) := by decide +kernel
theorem dJ2_getChar_3b067_33 : decode cJ2_getChar_3b067 33 = .ok (.iload_n 1, 1) := by decide +kernel
theorem dJ2_getChar_3b067_34 : decode cJ2_getChar_3b067 34 = .ok (.iinc 1 1, 3) := by decide +kernel
theorem dJ2_getChar_3b067_37 : decode cJ2_getChar_3b067 37 = .ok (.baload, 1) := by decide +kernel
theorem dJ2_getChar_3b067_38 : decode cJ2_getChar_3b067 38 = .ok (.sipush 255, 3) := by decide +kernel
theorem dJ2_getChar_3b067_41 : decode cJ2_getChar_3b067 41 = .ok (.iand, 1) := by decide +kernel
theorem dJ2_getChar_3b067_42 : decode cJ2_getChar_3b067 42 = .ok (.getstatic 59, 3) := by decide +kernel
theorem dJ2_getChar_3b067_45 : decode cJ2_getChar_3b067 45 = .ok (.ishl, 1) := by decide +kernel
theorem dJ2_getChar_3b067_46 : decode cJ2_getChar_3b067 46 = .ok (.aload_n 0, 1) := by decide +kernel
theorem dJ2_getChar_3b067_47 : decode cJ2_getChar_3b067 47 = .ok (.iload_n 1, 1) := by decide +kernel
theorem dJ2_getChar_3b067_48 : decode cJ2_getChar_3b067 48 = .ok (.baload, 1) := by decide +kernel
theorem dJ2_getChar_3b067_49 : decode cJ2_getChar_3b067 49 = .ok (.sipush 255, 3) := by decide +kernel
theorem dJ2_getChar_3b067_52 : decode cJ2_getChar_3b067 52 = .ok (.iand, 1) := by decide +kernel
theorem dJ2_getChar_3b067_53 : decode cJ2_getChar_3b067 53 = .ok (.getstatic 63, 3) := by decide +kernel
theorem dJ2_getChar_3b067_56 : decode cJ2_getChar_3b067 56 = .ok (.ishl, 1) := by decide +kernel
theorem dJ2_getChar_3b067_57 : decode cJ2_getChar_3b067 57 = .ok (.ior, 1) := by decide +kernel
theorem dJ2_getChar_3b067_58 : decode cJ2_getChar_3b067 58 = .ok (.i2c, 1) := by decide +kernel
theorem dJ2_getChar_3b067_59 : decode cJ2_getChar_3b067 59 = .ok (.ireturn, 1) := by decide +kernel
theorem dJ2_length_9d52b_0 : decode cJ2_length_9d52b 0 = .ok (.aload_n 0, 1) := by decide +kernel
theorem dJ2_length_9d52b_1 : decode cJ2_length_9d52b 1 = .ok (.arraylength, 1) := by decide +kernel
theorem dJ2_length_9d52b_2 : decode cJ2_length_9d52b 2 = .ok (.iconst 1, 1) := by decide +kernel
theorem dJ2_length_9d52b_3 : decode cJ2_length_9d52b 3 = .ok (.ishr, 1) := by decide +kernel
theorem dJ2_length_9d52b_4 : decode cJ2_length_9d52b 4 = .ok (.ireturn, 1) := by decide +kernel
set_option maxRecDepth 20000 in
theorem ggJ2_charAt_3b067_J2_checkIndex_2214a : GoodIn wsJ2_charAt_3b067 wsJ2_checkIndex_2214a := goodIn_r _ [4, 5, 6, 3, 7, 8, 9, 10, 11, 12, 13, 14, 15, 16] (by decide +kernel) (by decide +kernel)
set_option maxRecDepth 20000 in
theorem gJ2_charAt_3b067_J2_checkIndex_2214a : GoodIn wsJ2_charAt_3b067 (va_wsS RJ2 67 yJ2_checkIndex_2214a wsJ2_checkIndex_2214a) := goodIn_app (goodIn_of _ (by decide +kernel)) ggJ2_charAt_3b067_J2_checkIndex_2214a
set_option maxRecDepth 20000 in
theorem ggJ2_charAt_3b067_J2_getChar_3b067 : GoodIn wsJ2_charAt_3b067 wsJ2_getChar_3b067 := goodIn_r _ [19, 20, 21, 22, 5, 6, 3, 7] (by decide +kernel) (by decide +kernel)
set_option maxRecDepth 20000 in
theorem gJ2_charAt_3b067_J2_getChar_3b067 : GoodIn wsJ2_charAt_3b067 (va_wsS RJ2 71 yJ2_getChar_3b067 wsJ2_getChar_3b067) := goodIn_app (goodIn_of _ (by decide +kernel)) ggJ2_charAt_3b067_J2_getChar_3b067
theorem dJ2_charAt_3b067_0 : decode cJ2_charAt_3b067 0 = .ok (.iload_n 1, 1) := by decide +kernel
theorem dJ2_charAt_3b067_1 : decode cJ2_charAt_3b067 1 = .ok (.aload_n 0, 1) := by decide +kernel
theorem dJ2_charAt_3b067_2 : decode cJ2_charAt_3b067 2 = .ok (.invokestatic 67, 3) := by decide +kernel
theorem dJ2_charAt_3b067_5 : decode cJ2_charAt_3b067 5 = .ok (.aload_n 0, 1) := by decide +kernel
theorem dJ2_charAt_3b067_6 : decode cJ2_charAt_3b067 6 = .ok (.iload_n 1, 1) := by decide +kernel
theorem dJ2_charAt_3b067_7 : decode cJ2_charAt_3b067 7 = .ok (.invokestatic 71, 3) := by decide +kernel
theorem dJ2_charAt_3b067_10 : decode cJ2_charAt_3b067 10 = .ok (.ireturn, 1) := by decide +kernel
set_option maxRecDepth 20000 in
theorem ggJ2_checkIndex_2214a_J2_length_9d52b : GoodIn wsJ2_checkIndex_2214a wsJ2_length_9d52b := goodIn_r _ [4] (by decide +kernel) (by decide +kernel)
set_option maxRecDepth 20000 in
theorem gJ2_checkIndex_2214a_J2_length_9d52b : GoodIn wsJ2_checkIndex_2214a (va_wsS RJ2 48 yJ2_length_9d52b wsJ2_length_9d52b) := goodIn_app (goodIn_of _ (by decide +kernel)) ggJ2_checkIndex_2214a_J2_length_9d52b
set_option maxRecDepth 20000 in
theorem ggJ2_checkIndex_2214a_J0_checkIndex_df160 : GoodIn wsJ2_checkIndex_2214a wsJ0_checkIndex_df160 := goodIn_r _ [8, 9, 10, 11, 12, 13] (by decide +kernel) (by decide +kernel)
set_option maxRecDepth 20000 in
theorem gJ2_checkIndex_2214a_J0_checkIndex_df160 : GoodIn wsJ2_checkIndex_2214a (va_wsS RJ2 414 yJ0_checkIndex_df160 wsJ0_checkIndex_df160) := goodIn_app (goodIn_of _ (by decide +kernel)) ggJ2_checkIndex_2214a_J0_checkIndex_df160
theorem dJ2_checkIndex_2214a_0 : decode cJ2_checkIndex_2214a 0 = .ok (.iload_n 0, 1) := by decide +kernel
theorem dJ2_checkIndex_2214a_1 : decode cJ2_checkIndex_2214a 1 = .ok (.aload_n 1, 1) := by decide +kernel
theorem dJ2_checkIndex_2214a_2 : decode cJ2_checkIndex_2214a 2 = .ok (.invokestatic 48, 3) := by decide +kernel
theorem dJ2_checkIndex_2214a_5 : decode cJ2_checkIndex_2214a 5 = .ok (.invokestatic 414, 3) := by decide +kernel
theorem dJ2_checkIndex_2214a_8 : decode cJ2_checkIndex_2214a 8 = .ok (.return_, 1) := by decide +kernel
theorem dJ7_fill_53178_0 : decode cJ7_fill_53178 0 = .ok (.iconst 0, 1) := by decide +kernel
theorem dJ7_fill_53178_1 : decode cJ7_fill_53178 1 = .ok (.istore_n 2, 1) := by decide +kernel
theorem dJ7_fill_53178_2 : decode cJ7_fill_53178 2 = .ok (.aload_n 0, 1) := by decide +kernel
theorem dJ7_fill_53178_3 : decode cJ7_fill_53178 3 = .ok (.arraylength, 1) := by decide +kernel
theorem dJ7_fill_53178_4 : decode cJ7_fill_53178 4 = .ok (.istore_n 3, 1) := by decide +kernel
theorem dJ7_fill_53178_5 : decode cJ7_fill_53178 5 = .ok (.iload_n 2, 1) := by decide +kernel
theorem dJ7_fill_53178_6 : decode cJ7_fill_53178 6 = .ok (.iload_n 3, 1) := by decide +kernel
theorem dJ7_fill_53178_7 : decode cJ7_fill_53178 7 = .ok (.if_icmp .ge 13, 3) := by decide +kernel
theorem dJ7_fill_53178_10 : decode cJ7_fill_53178 10 = .ok (.aload_n 0, 1) := by decide +kernel
theorem dJ7_fill_53178_11 : decode cJ7_fill_53178 11 = .ok (.iload_n 2, 1) := by decide +kernel
theorem dJ7_fill_53178_12 : decode cJ7_fill_53178 12 = .ok (.iload_n 1, 1) := by decide +kernel
theorem dJ7_fill_53178_13 : decode cJ7_fill_53178 13 = .ok (.iastore, 1) := by decide +kernel
theorem dJ7_fill_53178_14 : decode cJ7_fill_53178 14 = .ok (.iinc 2 1, 3) := by decide +kernel
theorem dJ7_fill_53178_17 : decode cJ7_fill_53178 17 = .ok (.goto (-12), 3) := by decide +kernel
theorem dJ7_fill_53178_20 : decode cJ7_fill_53178 20 = .ok (.return_, 1) := by decide +kernel
theorem dJ3_checkIndex_8e157_0 : decode cJ3_checkIndex_8e157 0 = .ok (.iload_n 0, 1) := by decide +kernel
theorem dJ3_checkIndex_8e157_1 : decode cJ3_checkIndex_8e157 1 = .ok (.ifCond .lt 8, 3) := by decide +kernel
theorem dJ3_checkIndex_8e157_4 : decode cJ3_checkIndex_8e157 4 = .ok (.iload_n 0, 1) := by decide +kernel
theorem dJ3_checkIndex_8e157_5 : decode cJ3_checkIndex_8e157 5 = .ok (.iload_n 1, 1) := by decide +kernel
theorem dJ3_checkIndex_8e157_6 : decode cJ3_checkIndex_8e157 6 = .ok (.if_icmp .lt 10, 3) := by decide +kernel
theorem dJ3_checkIndex_8e157_9 : decode cJ3_checkIndex_8e157 9 = .ok (.aload_n 2, 1) := by decide +kernel
theorem dJ3_checkIndex_8e157_10 : decode cJ3_checkIndex_8e157 10 = .ok (.iload_n 0, 1) := by decide +kernel
theorem dJ3_checkIndex_8e157_11 : decode cJ3_checkIndex_8e157 11 = .ok (.iload_n 1, 1) := by decide +kernel
theorem dJ3_checkIndex_8e157_12 : decode cJ3_checkIndex_8e157 12 = .ok (.invokestatic 95, 3) := by decide +kernel
theorem dJ3_checkIndex_8e157_15 : decode cJ3_checkIndex_8e157 15 = .ok (.athrow, 1) := by decide +kernel
theorem dJ3_checkIndex_8e157_16 : decode cJ3_checkIndex_8e157 16 = .ok (.iload_n 0, 1) := by decide +kernel
theorem dJ3_checkIndex_8e157_17 : decode cJ3_checkIndex_8e157 17 = .ok (.ireturn, 1) := by decide +kernel
set_option maxRecDepth 20000 in
theorem ggL_tryOrder_X5_order : GoodIn wsL_tryOrder wsX5_order := goodIn_ca (goodIn_ca (goodIn_ca (goodIn_r _ [9, 10, 11, 12, 13, 14, 15, 16, 17, 18, 19, 20, 21, 22, 8, 23, 24, 25, 26, 27, 28, 29, 30, 31, 32, 33, 34, 35, 36, 37, 38, 39, 40, 41, 42, 43, 44, 45, 46, 47, 48, 49, 50, 51, 52, 53, 54, 55, 56, 57, 58, 59, 60, 61, 62, 63, 64, 65, 66, 67, 68, 69, 70, 71, 72, 73, 74, 75, 76, 77, 78, 79, 80, 81, 82, 83, 84, 85, 86, 87, 88, 89, 90, 91, 92, 93, 94, 95, 96, 97, 98, 99, 100, 101, 102, 103, 104, 105, 106, 107, 108, 109, 110, 111, 112, 113, 114, 115, 116, 117, 118, 119, 120, 121, 122, 123, 124, 125, 126, 127] (by decide +kernel) (by decide +kernel)) (goodIn_sub (fun _ h => List.mem_cons_of_mem _ (List.mem_append_left _ (List.mem_append_left _ (List.mem_append_right _ h)))) (by decide +kernel))) (goodIn_sub (fun _ h => List.mem_cons_of_mem _ (List.mem_append_left _ (List.mem_append_right _ h))) (by decide +kernel))) (goodIn_sub (fun _ h => List.mem_cons_of_mem _ (List.mem_append_right _ h)) (by decide +kernel))
set_option maxRecDepth 20000 in
theorem gL_tryOrder_X5_order : GoodIn wsL_tryOrder (wsV RL 7 RX5 yX5_order wsX5_order) := goodIn_app (goodIn_of _ (by decide +kernel)) ggL_tryOrder_X5_order
theorem dL_tryOrder_0 : decode cL_tryOrder 0 = .ok (.aload_n 0, 1) := by decide +kernel
theorem dL_tryOrder_1 : decode cL_tryOrder 1 = .ok (.iload_n 1, 1) := by decide +kernel
theorem dL_tryOrder_2 : decode cL_tryOrder 2 = .ok (.iload_n 2, 1) := by decide +kernel
theorem dL_tryOrder_3 : decode cL_tryOrder 3 = .ok (.iload_n 3, 1) := by decide +kernel
theorem dL_tryOrder_4 : decode cL_tryOrder 4 = .ok (.invokevirtual 7, 3) := by decide +kernel
theorem dL_tryOrder_7 : decode cL_tryOrder 7 = .ok (.ireturn, 1) := by decide +kernel
theorem dL_tryOrder_8 : decode cL_tryOrder 8 = .ok (.astore 4, 2) := by decide +kernel
theorem dL_tryOrder_10 : decode cL_tryOrder 10 = .ok (.ldc 15, 2) := by decide +kernel
theorem dL_tryOrder_12 : decode cL_tryOrder 12 = .ok (.ireturn, 1) := by decide +kernel
theorem dL_tryOrder_13 : decode cL_tryOrder 13 = .ok (.astore 4, 2) := by decide +kernel
theorem dL_tryOrder_15 : decode cL_tryOrder 15 = .ok (.ldc 18, 2) := by decide +kernel
theorem dL_tryOrder_17 : decode cL_tryOrder 17 = .ok (.ireturn, 1) := by decide +kernel
set_option maxRecDepth 20000 in
theorem ggL_tryShare_X5_share : GoodIn wsL_tryShare wsX5_share := goodIn_ca (goodIn_ca (goodIn_ca (goodIn_r _ [7, 8, 9, 10, 11, 12, 13, 14, 6, 15, 16, 17, 18, 19, 20, 21, 22, 23, 24, 25, 26, 27, 28, 29, 30, 31, 32, 33, 34, 35, 36, 37, 38, 39, 40, 41, 42, 43, 44, 45, 46, 47, 48, 49, 50, 51, 52, 53, 54, 55, 56, 57, 58, 59, 60, 61, 62, 63, 64, 65, 66, 67, 68, 69, 70, 71, 72, 73, 74, 75, 76, 77, 78, 79, 80, 81, 82, 83, 84, 85, 86, 87, 88, 89, 90, 91, 92, 93, 94, 95, 96, 97, 98, 99, 100, 101, 102, 103, 104, 105, 106] (by decide +kernel) (by decide +kernel)) (goodIn_sub (fun _ h => List.mem_cons_of_mem _ (List.mem_append_left _ (List.mem_append_left _ (List.mem_append_right _ h)))) (by decide +kernel))) (goodIn_sub (fun _ h => List.mem_cons_of_mem _ (List.mem_append_left _ (List.mem_append_right _ h))) (by decide +kernel))) (goodIn_sub (fun _ h => List.mem_cons_of_mem _ (List.mem_append_right _ h)) (by decide +kernel))
set_option maxRecDepth 20000 in
theorem gL_tryShare_X5_share : GoodIn wsL_tryShare (wsV RL 19 RX5 yX5_share wsX5_share) := goodIn_app (goodIn_of _ (by decide +kernel)) ggL_tryShare_X5_share
theorem dL_tryShare_0 : decode cL_tryShare 0 = .ok (.aload_n 0, 1) := by decide +kernel
theorem dL_tryShare_1 : decode cL_tryShare 1 = .ok (.iload_n 1, 1) := by decide +kernel
theorem dL_tryShare_2 : decode cL_tryShare 2 = .ok (.iload_n 2, 1) := by decide +kernel
theorem dL_tryShare_3 : decode cL_tryShare 3 = .ok (.invokevirtual 19, 3) := by decide +kernel
theorem dL_tryShare_6 : decode cL_tryShare 6 = .ok (.ireturn, 1) := by decide +kernel
theorem dL_tryShare_7 : decode cL_tryShare 7 = .ok (.astore_n 3, 1) := by decide +kernel
theorem dL_tryShare_8 : decode cL_tryShare 8 = .ok (.ldc 15, 2) := by decide +kernel
theorem dL_tryShare_10 : decode cL_tryShare 10 = .ok (.ireturn, 1) := by decide +kernel
set_option maxRecDepth 20000 in
theorem ggL_tryScript_X5_runScript : GoodIn wsL_tryScript wsX5_runScript := goodIn_ca (goodIn_r _ [7, 8, 9, 10, 11, 12, 13, 14, 15, 16, 17, 18, 19, 20, 21, 22, 23, 24, 25, 26, 27, 28, 29, 30, 31, 32, 33, 34, 35, 36, 37, 38, 39, 40, 41, 42, 43, 44, 45, 46, 47, 48, 49, 50, 51, 52, 53, 54, 55, 56, 57, 58, 59, 60, 61, 62, 63, 64, 65, 66, 67, 68, 69, 70, 71, 6, 72, 73, 74, 75, 76, 77, 78, 79, 80, 81, 82, 83, 84, 85, 86, 87, 88, 89, 90, 91, 92, 93, 94, 95, 96, 97, 98, 99, 100, 101, 102, 103, 104, 105, 106, 107, 108, 109, 110, 111, 112, 113, 114, 115, 116, 117, 118, 119, 120, 121, 122, 123, 124, 125, 126, 127, 128, 129, 130, 131, 132, 133, 134, 135, 136, 137, 138, 139, 140, 141, 142, 143, 144, 145, 146, 147, 148, 149, 150, 151, 152, 153, 154, 155, 156, 157, 158, 159, 160, 161, 162, 163, 164, 165, 166, 167, 168, 169, 170, 171, 172, 173, 174, 175, 176, 177, 178, 179, 180, 181, 182, 183, 184, 185, 186, 187, 188, 189, 190, 191, 192, 193, 194, 195, 196, 197, 198, 199, 200, 201, 202, 203, 204, 205, 206, 207, 208, 209, 210, 211, 212, 213, 214, 215, 216, 217, 218, 219, 220, 221, 222, 223, 224, 225, 226, 227, 228, 229, 230, 231, 232, 233, 234, 235, 236, 237, 238, 239, 240, 241, 242, 243, 244, 245, 246, 247, 248] (by decide +kernel) (by decide +kernel)) (goodIn_sub (fun _ h => List.mem_cons_of_mem _ (List.mem_append_right _ h)) (by decide +kernel))
set_option maxRecDepth 20000 in
theorem gL_tryScript_X5_runScript : GoodIn wsL_tryScript (wsV RL 23 RX5 yX5_runScript wsX5_runScript) := goodIn_app (goodIn_of _ (by decide +kernel)) ggL_tryScript_X5_runScript
theorem dL_tryScript_0 : decode cL_tryScript 0 = .ok (.aload_n 0, 1) := by decide +kernel
theorem dL_tryScript_1 : decode cL_tryScript 1 = .ok (.iload_n 1, 1) := by decide +kernel
theorem dL_tryScript_2 : decode cL_tryScript 2 = .ok (.lload_n 2, 1) := by decide +kernel
theorem dL_tryScript_3 : decode cL_tryScript 3 = .ok (.invokevirtual 23, 3) := by decide +kernel
theorem dL_tryScript_6 : decode cL_tryScript 6 = .ok (.ireturn, 1) := by decide +kernel
theorem dL_tryScript_7 : decode cL_tryScript 7 = .ok (.astore 4, 2) := by decide +kernel
theorem dL_tryScript_9 : decode cL_tryScript 9 = .ok (.ldc 29, 2) := by decide +kernel
theorem dL_tryScript_11 : decode cL_tryScript 11 = .ok (.ireturn, 1) := by decide +kernel
set_option maxRecDepth 20000 in
theorem ggL_trySimulate_X5_simulate : GoodIn wsL_trySimulate wsX5_simulate := goodIn_ca (goodIn_r _ [7, 8, 9, 10, 11, 12, 13, 14, 15, 16, 17, 18, 19, 20, 21, 22, 23, 24, 25, 26, 27, 28, 29, 30, 31, 32, 33, 34, 35, 36, 37, 38, 39, 40, 41, 42, 43, 44, 45, 46, 47, 48, 49, 50, 51, 52, 53, 54, 55, 56, 57, 58, 59, 60, 61, 62, 63, 64, 65, 66, 67, 68, 6, 69, 70, 71, 72, 73, 74, 75, 76, 77, 78, 79, 80, 81, 82, 83, 84, 85, 86, 87, 88, 89, 90, 91, 92, 93, 94, 95, 96, 97, 98, 99, 100, 101, 102, 103, 104, 105, 106, 107, 108, 109, 110, 111, 112, 113, 114, 115, 116, 117, 118, 119, 120, 121, 122, 123, 124, 125, 126, 127, 128, 129, 130, 131, 132, 133, 134, 135, 136, 137, 138, 139, 140, 141, 142, 143, 144, 145, 146, 147, 148, 149, 150, 151, 152, 153, 154, 155, 156, 157, 158, 159, 160, 161, 162, 163, 164, 165, 166, 167, 168, 169, 170, 171, 172, 173, 174, 175, 176, 177, 178, 179, 180, 181, 182, 183, 184, 185, 186, 187, 188, 189, 190, 191, 192, 193, 194, 195, 196, 197, 198, 199, 200, 201, 202, 203, 204, 205, 206, 207, 208, 209, 210, 211, 212, 213, 214, 215, 216, 217, 218, 219, 220, 221, 222, 223, 224, 225, 226, 227, 228, 229, 230, 231, 232, 233, 234, 235, 236, 237, 238, 239, 240, 241, 242, 243, 244, 245, 246, 247, 248, 249, 250, 251, 252, 253, 254, 255, 256, 257, 258, 259, 260, 261, 262, 263, 264, 265, 266, 267, 268, 269, 270, 271] (by decide +kernel) (by decide +kernel)) (goodIn_sub (fun _ h => List.mem_cons_of_mem _ (List.mem_append_right _ h)) (by decide +kernel))
set_option maxRecDepth 20000 in
theorem gL_trySimulate_X5_simulate : GoodIn wsL_trySimulate (wsV RL 30 RX5 yX5_simulate wsX5_simulate) := goodIn_app (goodIn_of _ (by decide +kernel)) ggL_trySimulate_X5_simulate
theorem dL_trySimulate_0 : decode cL_trySimulate 0 = .ok (.aload_n 0, 1) := by decide +kernel
theorem dL_trySimulate_1 : decode cL_trySimulate 1 = .ok (.lload_n 1, 1) := by decide +kernel
theorem dL_trySimulate_2 : decode cL_trySimulate 2 = .ok (.iload_n 3, 1) := by decide +kernel
theorem dL_trySimulate_3 : decode cL_trySimulate 3 = .ok (.invokevirtual 30, 3) := by decide +kernel
theorem dL_trySimulate_6 : decode cL_trySimulate 6 = .ok (.ireturn, 1) := by decide +kernel
theorem dL_trySimulate_7 : decode cL_trySimulate 7 = .ok (.astore 4, 2) := by decide +kernel
theorem dL_trySimulate_9 : decode cL_trySimulate 9 = .ok (.ldc 29, 2) := by decide +kernel
theorem dL_trySimulate_11 : decode cL_trySimulate 11 = .ok (.ireturn, 1) := by decide +kernel
set_option maxRecDepth 20000 in
theorem ggL_tryAppend_X5_append : GoodIn wsL_tryAppend wsX5_append := goodIn_ca (goodIn_ca (goodIn_r _ [9, 10, 11, 12, 13, 14, 15, 16, 17, 18, 19, 20, 21, 22, 23, 24, 25, 26, 27, 28, 29, 30, 31, 32, 33] (by decide +kernel) (by decide +kernel)) (goodIn_sub (fun _ h => List.mem_cons_of_mem _ (List.mem_append_left _ (List.mem_append_right _ h))) (by decide +kernel))) (goodIn_sub (fun _ h => List.mem_cons_of_mem _ (List.mem_append_right _ h)) (by decide +kernel))
set_option maxRecDepth 20000 in
theorem gL_tryAppend_X5_append : GoodIn wsL_tryAppend (wsV RL 34 RX5 yX5_append wsX5_append) := goodIn_app (goodIn_of _ (by decide +kernel)) ggL_tryAppend_X5_append
theorem dL_tryAppend_0 : decode cL_tryAppend 0 = .ok (.aload_n 0, 1) := by decide +kernel
theorem dL_tryAppend_1 : decode cL_tryAppend 1 = .ok (.iload_n 1, 1) := by decide +kernel
theorem dL_tryAppend_2 : decode cL_tryAppend 2 = .ok (.invokevirtual 34, 3) := by decide +kernel
theorem dL_tryAppend_5 : decode cL_tryAppend 5 = .ok (.ireturn, 1) := by decide +kernel
theorem dL_tryAppend_6 : decode cL_tryAppend 6 = .ok (.astore_n 2, 1) := by decide +kernel
theorem dL_tryAppend_7 : decode cL_tryAppend 7 = .ok (.ldc 29, 2) := by decide +kernel
theorem dL_tryAppend_9 : decode cL_tryAppend 9 = .ok (.ireturn, 1) := by decide +kernel
theorem dL_tryAppend_10 : decode cL_tryAppend 10 = .ok (.astore_n 2, 1) := by decide +kernel
theorem dL_tryAppend_11 : decode cL_tryAppend 11 = .ok (.ldc 18, 2) := by decide +kernel
theorem dL_tryAppend_13 : decode cL_tryAppend 13 = .ok (.ireturn, 1) := by decide +kernel
set_option maxRecDepth 20000 in
theorem ggL_tryLoad_X5_load : GoodIn wsL_tryLoad wsX5_load := goodIn_ca (goodIn_r _ [7, 8, 9, 10, 11, 12, 13, 14, 15, 16, 17, 18, 19, 20, 21, 22, 23, 24, 25, 26, 27, 28, 29, 30, 31, 32, 33, 34, 35, 36, 37, 38, 39, 40, 41, 42, 43, 44, 45, 46, 47, 48, 49, 50, 51, 52, 53, 54, 55, 56, 57, 58, 59, 60, 61, 62, 63, 64, 65, 66, 67, 68, 69, 70, 71, 72, 73, 74, 75, 76, 77, 78, 79, 80, 81, 82, 83, 84, 85, 86, 87, 88, 89, 90, 91, 92, 93, 94, 95, 96, 97, 98, 99, 100, 101, 102, 103, 104, 105, 106, 107, 108, 109, 110, 111, 112, 113, 114, 115, 116, 117, 118, 119, 120, 121, 122, 123, 124, 125, 126, 127, 128, 129, 130, 131, 132, 133, 134, 135, 136, 137, 138, 139, 140, 141, 142, 143, 144, 145, 146, 147, 148, 149, 150, 151, 152, 153, 154, 6, 155, 156, 157, 158, 159, 160, 161, 162, 163, 164, 165, 166, 167, 168, 169, 170, 171, 172, 173, 174, 175, 176, 177, 178, 179, 180, 181, 182, 183, 184, 185, 186, 187, 188, 189, 190, 191, 192, 193, 194, 195, 196, 197, 198, 199, 200, 201, 202, 203, 204, 205, 206, 207, 208, 209, 210, 211, 212, 213, 214, 215, 216, 217, 218, 219, 220, 221, 222, 223, 224, 225, 226, 227, 228, 229, 230, 231, 232, 233, 234, 235, 236, 237, 238, 239, 240, 241, 242, 243, 244, 245, 246, 247, 248, 249, 250, 251, 252, 253, 254, 255, 256, 257, 258, 259, 260, 261, 262, 263, 264, 265, 266, 267, 268, 269, 270, 271, 272, 273, 274, 275, 276, 277, 278, 279, 280, 281, 282, 283, 284, 285, 286, 287, 288, 289, 290, 291, 292, 293, 294, 295, 296, 297, 298, 299, 300, 301, 302, 303, 304, 305, 306, 307, 308, 309, 310, 311, 312, 313, 314, 315, 316, 317, 318, 319, 320, 321, 322, 323, 324, 325, 326, 327, 328, 329, 330, 331, 332, 333, 334, 335, 336, 337, 338, 339, 340, 341, 342, 343, 344, 345, 346, 347, 348, 349, 350, 351, 352, 353, 354, 355] (by decide +kernel) (by decide +kernel)) (goodIn_sub (fun _ h => List.mem_cons_of_mem _ (List.mem_append_right _ h)) (by decide +kernel))
set_option maxRecDepth 20000 in
theorem gL_tryLoad_X5_load : GoodIn wsL_tryLoad (wsV RL 38 RX5 yX5_load wsX5_load) := goodIn_app (goodIn_of _ (by decide +kernel)) ggL_tryLoad_X5_load
theorem dL_tryLoad_0 : decode cL_tryLoad 0 = .ok (.aload_n 0, 1) := by decide +kernel
theorem dL_tryLoad_1 : decode cL_tryLoad 1 = .ok (.invokevirtual 38, 3) := by decide +kernel
theorem dL_tryLoad_4 : decode cL_tryLoad 4 = .ok (.ireturn, 1) := by decide +kernel
theorem dL_tryLoad_5 : decode cL_tryLoad 5 = .ok (.astore_n 1, 1) := by decide +kernel
theorem dL_tryLoad_6 : decode cL_tryLoad 6 = .ok (.ldc 18, 2) := by decide +kernel
theorem dL_tryLoad_8 : decode cL_tryLoad 8 = .ok (.ireturn, 1) := by decide +kernel
set_option maxRecDepth 20000 in
theorem ggL_tryAbout_X5_about : GoodIn wsL_tryAbout wsX5_about := goodIn_ca (goodIn_r _ [7, 8, 9, 10, 11, 12, 13, 14, 15, 16, 17, 18, 19, 20, 21, 22, 23, 24, 25, 26, 27, 28, 29, 30, 31, 32, 33, 34, 35, 36, 37, 38, 39, 40, 41, 42, 43, 44, 45, 46, 47, 48, 49, 50, 51, 52, 53, 54, 55, 56, 57, 58, 59, 60, 61, 62, 63, 64, 65, 66, 67, 68, 69, 70, 71, 72, 73, 74, 75, 76, 77, 78, 79, 80] (by decide +kernel) (by decide +kernel)) (goodIn_sub (fun _ h => List.mem_cons_of_mem _ (List.mem_append_right _ h)) (by decide +kernel))
set_option maxRecDepth 20000 in
theorem gL_tryAbout_X5_about : GoodIn wsL_tryAbout (wsV RL 42 RX5 yX5_about wsX5_about) := goodIn_app (goodIn_of _ (by decide +kernel)) ggL_tryAbout_X5_about
theorem dL_tryAbout_0 : decode cL_tryAbout 0 = .ok (.aload_n 0, 1) := by decide +kernel
theorem dL_tryAbout_1 : decode cL_tryAbout 1 = .ok (.iload_n 1, 1) := by decide +kernel
theorem dL_tryAbout_2 : decode cL_tryAbout 2 = .ok (.invokevirtual 42, 3) := by decide +kernel
theorem dL_tryAbout_5 : decode cL_tryAbout 5 = .ok (.ireturn, 1) := by decide +kernel
theorem dL_tryAbout_6 : decode cL_tryAbout 6 = .ok (.astore_n 2, 1) := by decide +kernel
theorem dL_tryAbout_7 : decode cL_tryAbout 7 = .ok (.ldc 29, 2) := by decide +kernel
theorem dL_tryAbout_9 : decode cL_tryAbout 9 = .ok (.ireturn, 1) := by decide +kernel
set_option maxRecDepth 20000 in
theorem ggL_tryChild_X5_child : GoodIn wsL_tryChild wsX5_child := goodIn_ca (goodIn_ca (goodIn_r _ [9, 10, 11, 12, 13, 14, 15, 16, 17, 18, 19, 20, 21, 8, 22, 23, 24, 25, 26, 27, 28, 29, 30, 31, 32, 33, 34, 35, 36, 37, 38, 39, 40, 41, 42, 43, 44, 45, 46, 47, 48, 49, 50, 51, 52, 53, 54, 55, 56, 57, 58, 59, 60, 61, 62, 63, 64, 65, 66, 67, 68, 69, 70, 71, 72, 73, 74, 75, 76, 77, 78, 79, 80] (by decide +kernel) (by decide +kernel)) (goodIn_sub (fun _ h => List.mem_cons_of_mem _ (List.mem_append_left _ (List.mem_append_right _ h))) (by decide +kernel))) (goodIn_sub (fun _ h => List.mem_cons_of_mem _ (List.mem_append_right _ h)) (by decide +kernel))
set_option maxRecDepth 20000 in
theorem gL_tryChild_X5_child : GoodIn wsL_tryChild (wsV RL 45 RX5 yX5_child wsX5_child) := goodIn_app (goodIn_of _ (by decide +kernel)) ggL_tryChild_X5_child
theorem dL_tryChild_0 : decode cL_tryChild 0 = .ok (.aload_n 0, 1) := by decide +kernel
theorem dL_tryChild_1 : decode cL_tryChild 1 = .ok (.iload_n 1, 1) := by decide +kernel
theorem dL_tryChild_2 : decode cL_tryChild 2 = .ok (.iload_n 2, 1) := by decide +kernel
theorem dL_tryChild_3 : decode cL_tryChild 3 = .ok (.invokevirtual 45, 3) := by decide +kernel
theorem dL_tryChild_6 : decode cL_tryChild 6 = .ok (.ireturn, 1) := by decide +kernel
theorem dL_tryChild_7 : decode cL_tryChild 7 = .ok (.astore_n 3, 1) := by decide +kernel
theorem dL_tryChild_8 : decode cL_tryChild 8 = .ok (.ldc 15, 2) := by decide +kernel
theorem dL_tryChild_10 : decode cL_tryChild 10 = .ok (.ireturn, 1) := by decide +kernel
theorem dL_tryChild_11 : decode cL_tryChild 11 = .ok (.astore_n 3, 1) := by decide +kernel
theorem dL_tryChild_12 : decode cL_tryChild 12 = .ok (.ldc 29, 2) := by decide +kernel
theorem dL_tryChild_14 : decode cL_tryChild 14 = .ok (.ireturn, 1) := by decide +kernel
set_option maxRecDepth 20000 in
theorem ggL_tryFamily_X5_family : GoodIn wsL_tryFamily wsX5_family := goodIn_ca (goodIn_ca (goodIn_r _ [9, 10, 11, 12, 13, 14, 15, 16, 8, 17, 18, 19, 20, 21, 22, 23, 24, 25, 26, 27, 28, 29, 30, 31, 32, 33, 34, 35, 36, 37, 38, 39, 40, 41, 42, 43, 44, 45, 46, 47, 48, 49, 50, 51, 52, 53, 54, 55, 56, 57, 58] (by decide +kernel) (by decide +kernel)) (goodIn_sub (fun _ h => List.mem_cons_of_mem _ (List.mem_append_left _ (List.mem_append_right _ h))) (by decide +kernel))) (goodIn_sub (fun _ h => List.mem_cons_of_mem _ (List.mem_append_right _ h)) (by decide +kernel))
set_option maxRecDepth 20000 in
theorem gL_tryFamily_X5_family : GoodIn wsL_tryFamily (wsV RL 49 RX5 yX5_family wsX5_family) := goodIn_app (goodIn_of _ (by decide +kernel)) ggL_tryFamily_X5_family
theorem dL_tryFamily_0 : decode cL_tryFamily 0 = .ok (.aload_n 0, 1) := by decide +kernel
theorem dL_tryFamily_1 : decode cL_tryFamily 1 = .ok (.iload_n 1, 1) := by decide +kernel
theorem dL_tryFamily_2 : decode cL_tryFamily 2 = .ok (.iload_n 2, 1) := by decide +kernel
theorem dL_tryFamily_3 : decode cL_tryFamily 3 = .ok (.invokevirtual 49, 3) := by decide +kernel
theorem dL_tryFamily_6 : decode cL_tryFamily 6 = .ok (.ireturn, 1) := by decide +kernel
theorem dL_tryFamily_7 : decode cL_tryFamily 7 = .ok (.astore_n 3, 1) := by decide +kernel
theorem dL_tryFamily_8 : decode cL_tryFamily 8 = .ok (.ldc 15, 2) := by decide +kernel
theorem dL_tryFamily_10 : decode cL_tryFamily 10 = .ok (.ireturn, 1) := by decide +kernel
theorem dL_tryFamily_11 : decode cL_tryFamily 11 = .ok (.astore_n 3, 1) := by decide +kernel
theorem dL_tryFamily_12 : decode cL_tryFamily 12 = .ok (.ldc 29, 2) := by decide +kernel
theorem dL_tryFamily_14 : decode cL_tryFamily 14 = .ok (.ireturn, 1) := by decide +kernel
set_option maxRecDepth 20000 in
theorem ggL_tryDay_X5_day : GoodIn wsL_tryDay wsX5_day := goodIn_ca (goodIn_ca (goodIn_r _ [9, 10, 11, 12, 13, 14, 15, 16, 8, 17, 18, 19, 20, 21, 22, 23, 24, 25, 26, 27, 28, 29, 30, 31, 32, 33, 34, 35, 36, 37, 38, 39, 40, 41, 42, 43, 44, 45, 46, 47, 48, 49, 50, 51, 52, 53, 54, 55, 56, 57, 58, 59, 60, 61, 62, 63, 64, 65, 66, 67, 68, 69, 70, 71, 72] (by decide +kernel) (by decide +kernel)) (goodIn_sub (fun _ h => List.mem_cons_of_mem _ (List.mem_append_left _ (List.mem_append_right _ h))) (by decide +kernel))) (goodIn_sub (fun _ h => List.mem_cons_of_mem _ (List.mem_append_right _ h)) (by decide +kernel))
set_option maxRecDepth 20000 in
theorem gL_tryDay_X5_day : GoodIn wsL_tryDay (wsV RL 52 RX5 yX5_day wsX5_day) := goodIn_app (goodIn_of _ (by decide +kernel)) ggL_tryDay_X5_day
theorem dL_tryDay_0 : decode cL_tryDay 0 = .ok (.aload_n 0, 1) := by decide +kernel
theorem dL_tryDay_1 : decode cL_tryDay 1 = .ok (.iload_n 1, 1) := by decide +kernel
theorem dL_tryDay_2 : decode cL_tryDay 2 = .ok (.iload_n 2, 1) := by decide +kernel
theorem dL_tryDay_3 : decode cL_tryDay 3 = .ok (.invokevirtual 52, 3) := by decide +kernel
theorem dL_tryDay_6 : decode cL_tryDay 6 = .ok (.ireturn, 1) := by decide +kernel
theorem dL_tryDay_7 : decode cL_tryDay 7 = .ok (.astore_n 3, 1) := by decide +kernel
theorem dL_tryDay_8 : decode cL_tryDay 8 = .ok (.ldc 15, 2) := by decide +kernel
theorem dL_tryDay_10 : decode cL_tryDay 10 = .ok (.ireturn, 1) := by decide +kernel
theorem dL_tryDay_11 : decode cL_tryDay 11 = .ok (.astore_n 3, 1) := by decide +kernel
theorem dL_tryDay_12 : decode cL_tryDay 12 = .ok (.ldc 29, 2) := by decide +kernel
theorem dL_tryDay_14 : decode cL_tryDay 14 = .ok (.ireturn, 1) := by decide +kernel
set_option maxRecDepth 20000 in
theorem ggL_tryMeal_X5_meal : GoodIn wsL_tryMeal wsX5_meal := goodIn_ca (goodIn_ca (goodIn_r _ [9, 10, 11, 12, 13, 14, 15, 16, 8, 17, 18, 19, 20, 21, 22, 23, 24, 25, 26, 27, 28, 29, 30, 31, 32, 33, 34, 35, 36, 37, 38, 39, 40, 41, 42, 43, 44, 45, 46, 47, 48, 49, 50, 51, 52, 53, 54, 55, 56, 57, 58, 59, 60, 61, 62, 63, 64, 65, 66, 67, 68, 69, 70, 71, 72, 73] (by decide +kernel) (by decide +kernel)) (goodIn_sub (fun _ h => List.mem_cons_of_mem _ (List.mem_append_left _ (List.mem_append_right _ h))) (by decide +kernel))) (goodIn_sub (fun _ h => List.mem_cons_of_mem _ (List.mem_append_right _ h)) (by decide +kernel))
set_option maxRecDepth 20000 in
theorem gL_tryMeal_X5_meal : GoodIn wsL_tryMeal (wsV RL 55 RX5 yX5_meal wsX5_meal) := goodIn_app (goodIn_of _ (by decide +kernel)) ggL_tryMeal_X5_meal
theorem dL_tryMeal_0 : decode cL_tryMeal 0 = .ok (.aload_n 0, 1) := by decide +kernel
theorem dL_tryMeal_1 : decode cL_tryMeal 1 = .ok (.iload_n 1, 1) := by decide +kernel
theorem dL_tryMeal_2 : decode cL_tryMeal 2 = .ok (.iload_n 2, 1) := by decide +kernel
theorem dL_tryMeal_3 : decode cL_tryMeal 3 = .ok (.iload_n 3, 1) := by decide +kernel
theorem dL_tryMeal_4 : decode cL_tryMeal 4 = .ok (.invokevirtual 55, 3) := by decide +kernel
theorem dL_tryMeal_7 : decode cL_tryMeal 7 = .ok (.ireturn, 1) := by decide +kernel
theorem dL_tryMeal_8 : decode cL_tryMeal 8 = .ok (.astore 4, 2) := by decide +kernel
theorem dL_tryMeal_10 : decode cL_tryMeal 10 = .ok (.ldc 15, 2) := by decide +kernel
theorem dL_tryMeal_12 : decode cL_tryMeal 12 = .ok (.ireturn, 1) := by decide +kernel
theorem dL_tryMeal_13 : decode cL_tryMeal 13 = .ok (.astore 4, 2) := by decide +kernel
theorem dL_tryMeal_15 : decode cL_tryMeal 15 = .ok (.ldc 29, 2) := by decide +kernel
theorem dL_tryMeal_17 : decode cL_tryMeal 17 = .ok (.ireturn, 1) := by decide +kernel
set_option maxRecDepth 20000 in
theorem ggL_trySetting_X5_setting : GoodIn wsL_trySetting wsX5_setting := goodIn_ca (goodIn_r _ [7, 8, 9, 10, 11, 12, 13, 14, 15, 16, 17, 18, 19, 20, 21, 22, 23, 24, 25, 26, 27, 28, 29, 30, 31, 32] (by decide +kernel) (by decide +kernel)) (goodIn_sub (fun _ h => List.mem_cons_of_mem _ (List.mem_append_right _ h)) (by decide +kernel))
set_option maxRecDepth 20000 in
theorem gL_trySetting_X5_setting : GoodIn wsL_trySetting (wsV RL 59 RX5 yX5_setting wsX5_setting) := goodIn_app (goodIn_of _ (by decide +kernel)) ggL_trySetting_X5_setting
theorem dL_trySetting_0 : decode cL_trySetting 0 = .ok (.aload_n 0, 1) := by decide +kernel
theorem dL_trySetting_1 : decode cL_trySetting 1 = .ok (.iload_n 1, 1) := by decide +kernel
theorem dL_trySetting_2 : decode cL_trySetting 2 = .ok (.invokevirtual 59, 3) := by decide +kernel
theorem dL_trySetting_5 : decode cL_trySetting 5 = .ok (.ireturn, 1) := by decide +kernel
theorem dL_trySetting_6 : decode cL_trySetting 6 = .ok (.astore_n 2, 1) := by decide +kernel
theorem dL_trySetting_7 : decode cL_trySetting 7 = .ok (.ldc 29, 2) := by decide +kernel
theorem dL_trySetting_9 : decode cL_trySetting 9 = .ok (.ireturn, 1) := by decide +kernel
set_option maxRecDepth 20000 in
theorem ggL_tryCome_X5_come : GoodIn wsL_tryCome wsX5_come := goodIn_ca (goodIn_ca (goodIn_ca (goodIn_r _ [11, 12, 13, 14, 15, 16, 17, 18, 19, 10, 20, 21, 22, 23, 24, 25, 26, 27, 28, 29, 30, 31, 32, 33, 34, 35, 36, 37, 38, 39, 40, 41, 42, 43, 44, 45, 46, 47, 48, 49, 50, 51, 52, 53, 54, 55, 56, 57, 58, 59, 60, 61, 62, 63, 64, 65, 66, 67, 68, 69, 70, 71, 72, 73, 74, 75, 76, 77, 78, 79, 80, 81, 82, 83, 84, 85, 86, 87, 88, 89, 90, 91, 92, 93, 94, 95, 96, 97, 98, 99, 100, 101, 102, 103, 104, 105, 106] (by decide +kernel) (by decide +kernel)) (goodIn_sub (fun _ h => List.mem_cons_of_mem _ (List.mem_append_left _ (List.mem_append_left _ (List.mem_append_right _ h)))) (by decide +kernel))) (goodIn_sub (fun _ h => List.mem_cons_of_mem _ (List.mem_append_left _ (List.mem_append_right _ h))) (by decide +kernel))) (goodIn_sub (fun _ h => List.mem_cons_of_mem _ (List.mem_append_right _ h)) (by decide +kernel))
set_option maxRecDepth 20000 in
theorem gL_tryCome_X5_come : GoodIn wsL_tryCome (wsV RL 62 RX5 yX5_come wsX5_come) := goodIn_app (goodIn_of _ (by decide +kernel)) ggL_tryCome_X5_come
theorem dL_tryCome_0 : decode cL_tryCome 0 = .ok (.aload_n 0, 1) := by decide +kernel
theorem dL_tryCome_1 : decode cL_tryCome 1 = .ok (.iload_n 1, 1) := by decide +kernel
theorem dL_tryCome_2 : decode cL_tryCome 2 = .ok (.iload_n 2, 1) := by decide +kernel
theorem dL_tryCome_3 : decode cL_tryCome 3 = .ok (.invokevirtual 62, 3) := by decide +kernel
theorem dL_tryCome_6 : decode cL_tryCome 6 = .ok (.ireturn, 1) := by decide +kernel
theorem dL_tryCome_7 : decode cL_tryCome 7 = .ok (.astore_n 3, 1) := by decide +kernel
theorem dL_tryCome_8 : decode cL_tryCome 8 = .ok (.ldc 15, 2) := by decide +kernel
theorem dL_tryCome_10 : decode cL_tryCome 10 = .ok (.ireturn, 1) := by decide +kernel
theorem dL_tryCome_11 : decode cL_tryCome 11 = .ok (.astore_n 3, 1) := by decide +kernel
theorem dL_tryCome_12 : decode cL_tryCome 12 = .ok (.ldc 29, 2) := by decide +kernel
theorem dL_tryCome_14 : decode cL_tryCome 14 = .ok (.ireturn, 1) := by decide +kernel
theorem dL_tryCome_15 : decode cL_tryCome 15 = .ok (.astore_n 3, 1) := by decide +kernel
theorem dL_tryCome_16 : decode cL_tryCome 16 = .ok (.ldc 18, 2) := by decide +kernel
theorem dL_tryCome_18 : decode cL_tryCome 18 = .ok (.ireturn, 1) := by decide +kernel
set_option maxRecDepth 20000 in
theorem ggL_tryMenu_X5_menu : GoodIn wsL_tryMenu wsX5_menu := goodIn_ca (goodIn_ca (goodIn_ca (goodIn_r _ [11, 12, 13, 14, 15, 16, 17, 18, 19, 10, 20, 21, 22, 23, 24, 25, 26, 27, 28, 29, 30, 31, 32, 33, 34, 35, 36, 37, 38, 39, 40, 41, 42, 43, 44, 45, 46, 47, 48, 49, 50, 51, 52, 53, 54, 55, 56, 57, 58, 59, 60, 61, 62, 63, 64, 65, 66, 67, 68, 69, 70, 71, 72, 73, 74, 75, 76, 77, 78, 79, 80, 81, 82, 83, 84, 85, 86, 87, 88, 89, 90, 91, 92, 93, 94, 95, 96, 97, 98, 99, 100, 101, 102, 103, 104, 105, 106] (by decide +kernel) (by decide +kernel)) (goodIn_sub (fun _ h => List.mem_cons_of_mem _ (List.mem_append_left _ (List.mem_append_left _ (List.mem_append_right _ h)))) (by decide +kernel))) (goodIn_sub (fun _ h => List.mem_cons_of_mem _ (List.mem_append_left _ (List.mem_append_right _ h))) (by decide +kernel))) (goodIn_sub (fun _ h => List.mem_cons_of_mem _ (List.mem_append_right _ h)) (by decide +kernel))
set_option maxRecDepth 20000 in
theorem gL_tryMenu_X5_menu : GoodIn wsL_tryMenu (wsV RL 65 RX5 yX5_menu wsX5_menu) := goodIn_app (goodIn_of _ (by decide +kernel)) ggL_tryMenu_X5_menu
theorem dL_tryMenu_0 : decode cL_tryMenu 0 = .ok (.aload_n 0, 1) := by decide +kernel
theorem dL_tryMenu_1 : decode cL_tryMenu 1 = .ok (.iload_n 1, 1) := by decide +kernel
theorem dL_tryMenu_2 : decode cL_tryMenu 2 = .ok (.iload_n 2, 1) := by decide +kernel
theorem dL_tryMenu_3 : decode cL_tryMenu 3 = .ok (.invokevirtual 65, 3) := by decide +kernel
theorem dL_tryMenu_6 : decode cL_tryMenu 6 = .ok (.ireturn, 1) := by decide +kernel
theorem dL_tryMenu_7 : decode cL_tryMenu 7 = .ok (.astore_n 3, 1) := by decide +kernel
theorem dL_tryMenu_8 : decode cL_tryMenu 8 = .ok (.ldc 15, 2) := by decide +kernel
theorem dL_tryMenu_10 : decode cL_tryMenu 10 = .ok (.ireturn, 1) := by decide +kernel
theorem dL_tryMenu_11 : decode cL_tryMenu 11 = .ok (.astore_n 3, 1) := by decide +kernel
theorem dL_tryMenu_12 : decode cL_tryMenu 12 = .ok (.ldc 29, 2) := by decide +kernel
theorem dL_tryMenu_14 : decode cL_tryMenu 14 = .ok (.ireturn, 1) := by decide +kernel
theorem dL_tryMenu_15 : decode cL_tryMenu 15 = .ok (.astore_n 3, 1) := by decide +kernel
theorem dL_tryMenu_16 : decode cL_tryMenu 16 = .ok (.ldc 18, 2) := by decide +kernel
theorem dL_tryMenu_18 : decode cL_tryMenu 18 = .ok (.ireturn, 1) := by decide +kernel
set_option maxRecDepth 20000 in
theorem ggL_tryPay_X5_pay : GoodIn wsL_tryPay wsX5_pay := goodIn_ca (goodIn_ca (goodIn_ca (goodIn_r _ [11, 12, 13, 14, 15, 16, 17, 18, 19, 20, 21, 22, 23, 24, 25, 26, 10, 27, 28, 29, 30, 31, 32, 33, 34, 35, 36, 37, 38, 39, 40, 41, 42, 43, 44, 45, 46, 47, 48, 49, 50, 51, 52, 53, 54, 55, 56, 57, 58, 59, 60, 61, 62, 63, 64, 65, 66, 67, 68, 69, 70, 71, 72, 73, 74, 75, 76, 77, 78, 79, 80, 81, 82, 83, 84, 85, 86, 87, 88, 89, 90, 91, 92, 93, 94, 95, 96, 97, 98, 99, 100, 101, 102, 103, 104, 105, 106, 107, 108] (by decide +kernel) (by decide +kernel)) (goodIn_sub (fun _ h => List.mem_cons_of_mem _ (List.mem_append_left _ (List.mem_append_left _ (List.mem_append_right _ h)))) (by decide +kernel))) (goodIn_sub (fun _ h => List.mem_cons_of_mem _ (List.mem_append_left _ (List.mem_append_right _ h))) (by decide +kernel))) (goodIn_sub (fun _ h => List.mem_cons_of_mem _ (List.mem_append_right _ h)) (by decide +kernel))
set_option maxRecDepth 20000 in
theorem gL_tryPay_X5_pay : GoodIn wsL_tryPay (wsV RL 68 RX5 yX5_pay wsX5_pay) := goodIn_app (goodIn_of _ (by decide +kernel)) ggL_tryPay_X5_pay
theorem dL_tryPay_0 : decode cL_tryPay 0 = .ok (.aload_n 0, 1) := by decide +kernel
theorem dL_tryPay_1 : decode cL_tryPay 1 = .ok (.iload_n 1, 1) := by decide +kernel
theorem dL_tryPay_2 : decode cL_tryPay 2 = .ok (.iload_n 2, 1) := by decide +kernel
theorem dL_tryPay_3 : decode cL_tryPay 3 = .ok (.invokevirtual 68, 3) := by decide +kernel
theorem dL_tryPay_6 : decode cL_tryPay 6 = .ok (.ireturn, 1) := by decide +kernel
theorem dL_tryPay_7 : decode cL_tryPay 7 = .ok (.astore_n 3, 1) := by decide +kernel
theorem dL_tryPay_8 : decode cL_tryPay 8 = .ok (.ldc 15, 2) := by decide +kernel
theorem dL_tryPay_10 : decode cL_tryPay 10 = .ok (.ireturn, 1) := by decide +kernel
theorem dL_tryPay_11 : decode cL_tryPay 11 = .ok (.astore_n 3, 1) := by decide +kernel
theorem dL_tryPay_12 : decode cL_tryPay 12 = .ok (.ldc 29, 2) := by decide +kernel
theorem dL_tryPay_14 : decode cL_tryPay 14 = .ok (.ireturn, 1) := by decide +kernel
theorem dL_tryPay_15 : decode cL_tryPay 15 = .ok (.astore_n 3, 1) := by decide +kernel
theorem dL_tryPay_16 : decode cL_tryPay 16 = .ok (.ldc 18, 2) := by decide +kernel
theorem dL_tryPay_18 : decode cL_tryPay 18 = .ok (.ireturn, 1) := by decide +kernel
set_option maxRecDepth 20000 in
theorem ggL_tryMove_X5_move : GoodIn wsL_tryMove wsX5_move := goodIn_ca (goodIn_ca (goodIn_ca (goodIn_r _ [11, 12, 13, 14, 15, 16, 17, 18, 19, 20, 21, 22, 23, 24, 25, 26, 27, 10, 28, 29, 30, 31, 32, 33, 34, 35, 36, 37, 38, 39, 40, 41, 42, 43, 44, 45, 46, 47, 48, 49, 50, 51, 52, 53, 54, 55, 56, 57, 58, 59, 60, 61, 62, 63, 64, 65, 66, 67, 68, 69, 70, 71, 72, 73, 74, 75, 76, 77, 78, 79, 80, 81, 82, 83, 84, 85, 86, 87, 88, 89, 90, 91, 92, 93, 94, 95, 96, 97, 98, 99, 100, 101, 102, 103, 104, 105, 106, 107, 108] (by decide +kernel) (by decide +kernel)) (goodIn_sub (fun _ h => List.mem_cons_of_mem _ (List.mem_append_left _ (List.mem_append_left _ (List.mem_append_right _ h)))) (by decide +kernel))) (goodIn_sub (fun _ h => List.mem_cons_of_mem _ (List.mem_append_left _ (List.mem_append_right _ h))) (by decide +kernel))) (goodIn_sub (fun _ h => List.mem_cons_of_mem _ (List.mem_append_right _ h)) (by decide +kernel))
set_option maxRecDepth 20000 in
theorem gL_tryMove_X5_move : GoodIn wsL_tryMove (wsV RL 71 RX5 yX5_move wsX5_move) := goodIn_app (goodIn_of _ (by decide +kernel)) ggL_tryMove_X5_move
theorem dL_tryMove_0 : decode cL_tryMove 0 = .ok (.aload_n 0, 1) := by decide +kernel
theorem dL_tryMove_1 : decode cL_tryMove 1 = .ok (.iload_n 1, 1) := by decide +kernel
theorem dL_tryMove_2 : decode cL_tryMove 2 = .ok (.iload_n 2, 1) := by decide +kernel
theorem dL_tryMove_3 : decode cL_tryMove 3 = .ok (.iload_n 3, 1) := by decide +kernel
theorem dL_tryMove_4 : decode cL_tryMove 4 = .ok (.invokevirtual 71, 3) := by decide +kernel
theorem dL_tryMove_7 : decode cL_tryMove 7 = .ok (.ireturn, 1) := by decide +kernel
theorem dL_tryMove_8 : decode cL_tryMove 8 = .ok (.astore 4, 2) := by decide +kernel
theorem dL_tryMove_10 : decode cL_tryMove 10 = .ok (.ldc 15, 2) := by decide +kernel
theorem dL_tryMove_12 : decode cL_tryMove 12 = .ok (.ireturn, 1) := by decide +kernel
theorem dL_tryMove_13 : decode cL_tryMove 13 = .ok (.astore 4, 2) := by decide +kernel
theorem dL_tryMove_15 : decode cL_tryMove 15 = .ok (.ldc 29, 2) := by decide +kernel
theorem dL_tryMove_17 : decode cL_tryMove 17 = .ok (.ireturn, 1) := by decide +kernel
theorem dL_tryMove_18 : decode cL_tryMove 18 = .ok (.astore 4, 2) := by decide +kernel
theorem dL_tryMove_20 : decode cL_tryMove 20 = .ok (.ldc 18, 2) := by decide +kernel
theorem dL_tryMove_22 : decode cL_tryMove 22 = .ok (.ireturn, 1) := by decide +kernel
set_option maxRecDepth 20000 in
theorem ggL_tryEntitle_X5_entitle : GoodIn wsL_tryEntitle wsX5_entitle := goodIn_ca (goodIn_ca (goodIn_ca (goodIn_r _ [9, 10, 11, 12, 13, 14, 15, 16, 17, 18, 19, 20, 21, 8, 22, 23, 24, 25, 26, 27, 28, 29, 30, 31, 32, 33, 34, 35, 36, 37, 38, 39, 40, 41, 42, 43, 44, 45, 46, 47, 48, 49, 50, 51, 52, 53, 54, 55, 56, 57, 58, 59, 60, 61, 62, 63, 64, 65, 66, 67, 68, 69, 70, 71, 72, 73, 74, 75, 76, 77, 78, 79, 80, 81, 82, 83, 84, 85, 86, 87, 88, 89, 90, 91, 92, 93, 94, 95, 96, 97, 98, 99, 100, 101, 102, 103, 104, 105, 106, 107, 108, 109, 110, 111, 112, 113, 114, 115, 116, 117, 118, 119, 120, 121, 122, 123, 124, 125, 126, 127, 128, 129, 130, 131, 132, 133, 134, 135, 136, 137, 138, 139, 140, 141, 142, 143] (by decide +kernel) (by decide +kernel)) (goodIn_sub (fun _ h => List.mem_cons_of_mem _ (List.mem_append_left _ (List.mem_append_left _ (List.mem_append_right _ h)))) (by decide +kernel))) (goodIn_sub (fun _ h => List.mem_cons_of_mem _ (List.mem_append_left _ (List.mem_append_right _ h))) (by decide +kernel))) (goodIn_sub (fun _ h => List.mem_cons_of_mem _ (List.mem_append_right _ h)) (by decide +kernel))
set_option maxRecDepth 20000 in
theorem gL_tryEntitle_X5_entitle : GoodIn wsL_tryEntitle (wsV RL 74 RX5 yX5_entitle wsX5_entitle) := goodIn_app (goodIn_of _ (by decide +kernel)) ggL_tryEntitle_X5_entitle
theorem dL_tryEntitle_0 : decode cL_tryEntitle 0 = .ok (.aload_n 0, 1) := by decide +kernel
theorem dL_tryEntitle_1 : decode cL_tryEntitle 1 = .ok (.iload_n 1, 1) := by decide +kernel
theorem dL_tryEntitle_2 : decode cL_tryEntitle 2 = .ok (.iload_n 2, 1) := by decide +kernel
theorem dL_tryEntitle_3 : decode cL_tryEntitle 3 = .ok (.iload_n 3, 1) := by decide +kernel
theorem dL_tryEntitle_4 : decode cL_tryEntitle 4 = .ok (.invokevirtual 74, 3) := by decide +kernel
theorem dL_tryEntitle_7 : decode cL_tryEntitle 7 = .ok (.ireturn, 1) := by decide +kernel
theorem dL_tryEntitle_8 : decode cL_tryEntitle 8 = .ok (.astore 4, 2) := by decide +kernel
theorem dL_tryEntitle_10 : decode cL_tryEntitle 10 = .ok (.ldc 15, 2) := by decide +kernel
theorem dL_tryEntitle_12 : decode cL_tryEntitle 12 = .ok (.ireturn, 1) := by decide +kernel
theorem dL_tryEntitle_13 : decode cL_tryEntitle 13 = .ok (.astore 4, 2) := by decide +kernel
theorem dL_tryEntitle_15 : decode cL_tryEntitle 15 = .ok (.ldc 29, 2) := by decide +kernel
theorem dL_tryEntitle_17 : decode cL_tryEntitle 17 = .ok (.ireturn, 1) := by decide +kernel
set_option maxRecDepth 20000 in
theorem ggL_tryWriteOff_X5_writeOff : GoodIn wsL_tryWriteOff wsX5_writeOff := goodIn_ca (goodIn_ca (goodIn_ca (goodIn_r _ [9, 10, 11, 12, 13, 14, 15, 16, 8, 17, 18, 19, 20, 21, 22, 23, 24, 25, 26, 27, 28, 29, 30, 31, 32, 33, 34, 35, 36, 37, 38, 39, 40, 41, 42, 43, 44, 45, 46, 47, 48, 49, 50, 51, 52, 53, 54, 55, 56, 57, 58, 59, 60, 61, 62, 63, 64, 65, 66, 67, 68, 69, 70, 71, 72, 73, 74, 75, 76, 77, 78, 79, 80, 81, 82, 83, 84, 85, 86, 87, 88, 89, 90, 91, 92, 93, 94, 95, 96, 97, 98, 99, 100, 101, 102, 103, 104, 105, 106, 107, 108] (by decide +kernel) (by decide +kernel)) (goodIn_sub (fun _ h => List.mem_cons_of_mem _ (List.mem_append_left _ (List.mem_append_left _ (List.mem_append_right _ h)))) (by decide +kernel))) (goodIn_sub (fun _ h => List.mem_cons_of_mem _ (List.mem_append_left _ (List.mem_append_right _ h))) (by decide +kernel))) (goodIn_sub (fun _ h => List.mem_cons_of_mem _ (List.mem_append_right _ h)) (by decide +kernel))
set_option maxRecDepth 20000 in
theorem gL_tryWriteOff_X5_writeOff : GoodIn wsL_tryWriteOff (wsV RL 77 RX5 yX5_writeOff wsX5_writeOff) := goodIn_app (goodIn_of _ (by decide +kernel)) ggL_tryWriteOff_X5_writeOff
theorem dL_tryWriteOff_0 : decode cL_tryWriteOff 0 = .ok (.aload_n 0, 1) := by decide +kernel
theorem dL_tryWriteOff_1 : decode cL_tryWriteOff 1 = .ok (.iload_n 1, 1) := by decide +kernel
theorem dL_tryWriteOff_2 : decode cL_tryWriteOff 2 = .ok (.invokevirtual 77, 3) := by decide +kernel
theorem dL_tryWriteOff_5 : decode cL_tryWriteOff 5 = .ok (.ireturn, 1) := by decide +kernel
theorem dL_tryWriteOff_6 : decode cL_tryWriteOff 6 = .ok (.astore_n 2, 1) := by decide +kernel
theorem dL_tryWriteOff_7 : decode cL_tryWriteOff 7 = .ok (.ldc 15, 2) := by decide +kernel
theorem dL_tryWriteOff_9 : decode cL_tryWriteOff 9 = .ok (.ireturn, 1) := by decide +kernel
theorem dL_tryWriteOff_10 : decode cL_tryWriteOff 10 = .ok (.astore_n 2, 1) := by decide +kernel
theorem dL_tryWriteOff_11 : decode cL_tryWriteOff 11 = .ok (.ldc 18, 2) := by decide +kernel
theorem dL_tryWriteOff_13 : decode cL_tryWriteOff 13 = .ok (.ireturn, 1) := by decide +kernel
set_option maxRecDepth 20000 in
theorem ggL_tryDays_X5_days : GoodIn wsL_tryDays wsX5_days := goodIn_ca (goodIn_ca (goodIn_ca (goodIn_r _ [9, 10, 11, 12, 13, 14, 15, 16, 17, 18, 19, 20, 21, 22, 23, 8, 24, 25, 26, 27, 28, 29, 30, 31, 32, 33, 34, 35, 36, 37, 38, 39, 40, 41, 42, 43, 44, 45, 46, 47, 48, 49, 50, 51, 52, 53, 54, 55, 56, 57, 58, 59, 60, 61, 62, 63, 64, 65, 66, 67, 68, 69, 70, 71, 72, 73, 74, 75, 76, 77, 78, 79, 80, 81, 82, 83, 84, 85, 86, 87, 88, 89, 90, 91, 92, 93, 94, 95, 96, 97, 98, 99, 100, 101, 102, 103, 104, 105, 106, 107, 108, 109, 110, 111, 112, 113, 114, 115, 116, 117, 118, 119, 120, 121, 122, 123, 124, 125, 126, 127, 128, 129, 130, 131, 132, 133, 134, 135, 136, 137, 138, 139, 140, 141, 142, 143, 144, 145] (by decide +kernel) (by decide +kernel)) (goodIn_sub (fun _ h => List.mem_cons_of_mem _ (List.mem_append_left _ (List.mem_append_left _ (List.mem_append_right _ h)))) (by decide +kernel))) (goodIn_sub (fun _ h => List.mem_cons_of_mem _ (List.mem_append_left _ (List.mem_append_right _ h))) (by decide +kernel))) (goodIn_sub (fun _ h => List.mem_cons_of_mem _ (List.mem_append_right _ h)) (by decide +kernel))
set_option maxRecDepth 20000 in
theorem gL_tryDays_X5_days : GoodIn wsL_tryDays (wsV RL 80 RX5 yX5_days wsX5_days) := goodIn_app (goodIn_of _ (by decide +kernel)) ggL_tryDays_X5_days
theorem dL_tryDays_0 : decode cL_tryDays 0 = .ok (.aload_n 0, 1) := by decide +kernel
theorem dL_tryDays_1 : decode cL_tryDays 1 = .ok (.iload_n 1, 1) := by decide +kernel
theorem dL_tryDays_2 : decode cL_tryDays 2 = .ok (.invokevirtual 80, 3) := by decide +kernel
theorem dL_tryDays_5 : decode cL_tryDays 5 = .ok (.ireturn, 1) := by decide +kernel
theorem dL_tryDays_6 : decode cL_tryDays 6 = .ok (.astore_n 2, 1) := by decide +kernel
theorem dL_tryDays_7 : decode cL_tryDays 7 = .ok (.ldc 29, 2) := by decide +kernel
theorem dL_tryDays_9 : decode cL_tryDays 9 = .ok (.ireturn, 1) := by decide +kernel
theorem dL_tryDays_10 : decode cL_tryDays 10 = .ok (.astore_n 2, 1) := by decide +kernel
theorem dL_tryDays_11 : decode cL_tryDays 11 = .ok (.ldc 18, 2) := by decide +kernel
theorem dL_tryDays_13 : decode cL_tryDays 13 = .ok (.ireturn, 1) := by decide +kernel
set_option maxRecDepth 20000 in
theorem ggL_trySet_X5_set : GoodIn wsL_trySet wsX5_set := goodIn_ca (goodIn_ca (goodIn_ca (goodIn_r _ [7, 8, 9, 10, 6, 11, 12, 13, 14, 15, 16, 17, 18, 19, 20, 21, 22, 23, 24, 25, 26, 27, 28, 29, 30, 31, 32, 33, 34, 35, 36, 37, 38, 39, 40, 41, 42, 43, 44, 45, 46, 47, 48, 49, 50, 51, 52, 53, 54, 55, 56, 57, 58, 59, 60, 61, 62, 63, 64, 65, 66, 67, 68, 69, 70, 71, 72, 73, 74, 75, 76, 77, 78, 79, 80, 81, 82, 83, 84, 85, 86, 87, 88, 89, 90, 91, 92, 93, 94, 95, 96, 97, 98, 99] (by decide +kernel) (by decide +kernel)) (goodIn_sub (fun _ h => List.mem_cons_of_mem _ (List.mem_append_left _ (List.mem_append_left _ (List.mem_append_right _ h)))) (by decide +kernel))) (goodIn_sub (fun _ h => List.mem_cons_of_mem _ (List.mem_append_left _ (List.mem_append_right _ h))) (by decide +kernel))) (goodIn_sub (fun _ h => List.mem_cons_of_mem _ (List.mem_append_right _ h)) (by decide +kernel))
set_option maxRecDepth 20000 in
theorem gL_trySet_X5_set : GoodIn wsL_trySet (wsV RL 83 RX5 yX5_set wsX5_set) := goodIn_app (goodIn_of _ (by decide +kernel)) ggL_trySet_X5_set
theorem dL_trySet_0 : decode cL_trySet 0 = .ok (.aload_n 0, 1) := by decide +kernel
theorem dL_trySet_1 : decode cL_trySet 1 = .ok (.iload_n 1, 1) := by decide +kernel
theorem dL_trySet_2 : decode cL_trySet 2 = .ok (.iload_n 2, 1) := by decide +kernel
theorem dL_trySet_3 : decode cL_trySet 3 = .ok (.invokevirtual 83, 3) := by decide +kernel
theorem dL_trySet_6 : decode cL_trySet 6 = .ok (.ireturn, 1) := by decide +kernel
theorem dL_trySet_7 : decode cL_trySet 7 = .ok (.astore_n 3, 1) := by decide +kernel
theorem dL_trySet_8 : decode cL_trySet 8 = .ok (.ldc 29, 2) := by decide +kernel
theorem dL_trySet_10 : decode cL_trySet 10 = .ok (.ireturn, 1) := by decide +kernel
set_option maxRecDepth 20000 in
theorem ggL_tryUndo_X5_undo : GoodIn wsL_tryUndo wsX5_undo := goodIn_ca (goodIn_r _ [7, 8, 9, 10, 11, 12, 13, 14, 15, 16, 17, 18, 19, 20, 21, 22, 23, 24, 25, 26, 27, 28, 29, 30, 31, 32, 33, 34, 35, 36, 37, 38, 39, 40, 41, 42, 43, 44, 45, 46, 47, 48, 49, 50, 51, 52, 53, 54, 55, 56, 57, 58, 59, 60, 61, 62, 63, 64, 65, 66, 67, 68, 69, 70, 71, 72, 73, 74, 75, 76, 77, 78, 79, 80, 81, 82] (by decide +kernel) (by decide +kernel)) (goodIn_sub (fun _ h => List.mem_cons_of_mem _ (List.mem_append_right _ h)) (by decide +kernel))
set_option maxRecDepth 20000 in
theorem gL_tryUndo_X5_undo : GoodIn wsL_tryUndo (wsV RL 86 RX5 yX5_undo wsX5_undo) := goodIn_app (goodIn_of _ (by decide +kernel)) ggL_tryUndo_X5_undo
theorem dL_tryUndo_0 : decode cL_tryUndo 0 = .ok (.aload_n 0, 1) := by decide +kernel
theorem dL_tryUndo_1 : decode cL_tryUndo 1 = .ok (.invokevirtual 86, 3) := by decide +kernel
theorem dL_tryUndo_4 : decode cL_tryUndo 4 = .ok (.ireturn, 1) := by decide +kernel
theorem dL_tryUndo_5 : decode cL_tryUndo 5 = .ok (.astore_n 1, 1) := by decide +kernel
theorem dL_tryUndo_6 : decode cL_tryUndo 6 = .ok (.ldc 18, 2) := by decide +kernel
theorem dL_tryUndo_8 : decode cL_tryUndo 8 = .ok (.ireturn, 1) := by decide +kernel
set_option maxRecDepth 20000 in
theorem ggL_tryRefusedOn_X5_refusedOn : GoodIn wsL_tryRefusedOn wsX5_refusedOn := goodIn_ca (goodIn_r _ [7, 8, 9, 10, 11, 12, 13, 6, 14, 15, 16, 17, 18, 19, 20, 21, 22, 23, 24, 25, 26, 27, 28, 29, 30, 31, 32, 33, 34, 35, 36, 37, 38, 39, 40, 41, 42, 43, 44, 45, 46, 47, 48, 49, 50, 51, 52, 53, 54, 55, 56, 57, 58, 59, 60, 61, 62, 63, 64, 65, 66, 67, 68, 69, 70, 71, 72, 73, 74, 75, 76, 77, 78, 79, 80, 81, 82, 83, 84, 85, 86, 87, 88, 89, 90, 91, 92, 93, 94, 95, 96, 97, 98, 99, 100, 101, 102, 103, 104, 105, 106, 107, 108, 109, 110, 111, 112, 113, 114] (by decide +kernel) (by decide +kernel)) (goodIn_sub (fun _ h => List.mem_cons_of_mem _ (List.mem_append_right _ h)) (by decide +kernel))
set_option maxRecDepth 20000 in
theorem gL_tryRefusedOn_X5_refusedOn : GoodIn wsL_tryRefusedOn (wsV RL 89 RX5 yX5_refusedOn wsX5_refusedOn) := goodIn_app (goodIn_of _ (by decide +kernel)) ggL_tryRefusedOn_X5_refusedOn
theorem dL_tryRefusedOn_0 : decode cL_tryRefusedOn 0 = .ok (.aload_n 0, 1) := by decide +kernel
theorem dL_tryRefusedOn_1 : decode cL_tryRefusedOn 1 = .ok (.iload_n 1, 1) := by decide +kernel
theorem dL_tryRefusedOn_2 : decode cL_tryRefusedOn 2 = .ok (.invokevirtual 89, 3) := by decide +kernel
theorem dL_tryRefusedOn_5 : decode cL_tryRefusedOn 5 = .ok (.ireturn, 1) := by decide +kernel
theorem dL_tryRefusedOn_6 : decode cL_tryRefusedOn 6 = .ok (.astore_n 2, 1) := by decide +kernel
theorem dL_tryRefusedOn_7 : decode cL_tryRefusedOn 7 = .ok (.ldc 15, 2) := by decide +kernel
theorem dL_tryRefusedOn_9 : decode cL_tryRefusedOn 9 = .ok (.ireturn, 1) := by decide +kernel
set_option maxRecDepth 20000 in
theorem ggL_tryNeeds_X5_needs : GoodIn wsL_tryNeeds wsX5_needs := goodIn_ca (goodIn_r _ [7, 8, 9, 10, 11, 12, 6, 13, 14, 15, 16, 17, 18, 19, 20, 21, 22, 23, 24, 25, 26, 27, 28, 29, 30, 31, 32, 33, 34, 35, 36, 37, 38, 39, 40, 41, 42, 43, 44, 45, 46, 47, 48, 49, 50, 51, 52, 53, 54, 55, 56, 57, 58, 59, 60, 61, 62, 63, 64, 65, 66, 67, 68, 69, 70, 71, 72, 73, 74, 75, 76, 77, 78, 79, 80, 81, 82, 83, 84, 85, 86, 87, 88, 89, 90, 91, 92, 93, 94, 95, 96, 97, 98, 99, 100, 101, 102, 103, 104, 105, 106, 107, 108, 109, 110, 111, 112, 113, 114, 115, 116, 117] (by decide +kernel) (by decide +kernel)) (goodIn_sub (fun _ h => List.mem_cons_of_mem _ (List.mem_append_right _ h)) (by decide +kernel))
set_option maxRecDepth 20000 in
theorem gL_tryNeeds_X5_needs : GoodIn wsL_tryNeeds (wsV RL 92 RX5 yX5_needs wsX5_needs) := goodIn_app (goodIn_of _ (by decide +kernel)) ggL_tryNeeds_X5_needs
theorem dL_tryNeeds_0 : decode cL_tryNeeds 0 = .ok (.aload_n 0, 1) := by decide +kernel
theorem dL_tryNeeds_1 : decode cL_tryNeeds 1 = .ok (.iload_n 1, 1) := by decide +kernel
theorem dL_tryNeeds_2 : decode cL_tryNeeds 2 = .ok (.invokevirtual 92, 3) := by decide +kernel
theorem dL_tryNeeds_5 : decode cL_tryNeeds 5 = .ok (.ireturn, 1) := by decide +kernel
theorem dL_tryNeeds_6 : decode cL_tryNeeds 6 = .ok (.astore_n 2, 1) := by decide +kernel
theorem dL_tryNeeds_7 : decode cL_tryNeeds 7 = .ok (.ldc 15, 2) := by decide +kernel
theorem dL_tryNeeds_9 : decode cL_tryNeeds 9 = .ok (.ireturn, 1) := by decide +kernel
set_option maxRecDepth 20000 in
theorem ggL_tryIfEntitled_X5_ifEntitled : GoodIn wsL_tryIfEntitled wsX5_ifEntitled := goodIn_ca (goodIn_ca (goodIn_ca (goodIn_r _ [9, 10, 11, 12, 13, 14, 15, 16, 17, 18, 19, 20, 21, 22, 8, 23, 24, 25, 26, 27, 28, 29, 30, 31, 32, 33, 34, 35, 36, 37, 38, 39, 40, 41, 42, 43, 44, 45, 46, 47, 48, 49, 50, 51, 52, 53, 54, 55, 56, 57, 58, 59, 60, 61, 62, 63, 64, 65, 66, 67, 68, 69, 70, 71, 72, 73, 74, 75, 76, 77, 78, 79, 80, 81, 82, 83, 84, 85, 86, 87, 88, 89, 90, 91, 92, 93, 94, 95, 96, 97, 98, 99, 100, 101, 102, 103, 104, 105, 106, 107, 108, 109, 110, 111, 112, 113, 114, 115, 116, 117, 118, 119, 120, 121, 122, 123, 124, 125, 126, 127, 128] (by decide +kernel) (by decide +kernel)) (goodIn_sub (fun _ h => List.mem_cons_of_mem _ (List.mem_append_left _ (List.mem_append_left _ (List.mem_append_right _ h)))) (by decide +kernel))) (goodIn_sub (fun _ h => List.mem_cons_of_mem _ (List.mem_append_left _ (List.mem_append_right _ h))) (by decide +kernel))) (goodIn_sub (fun _ h => List.mem_cons_of_mem _ (List.mem_append_right _ h)) (by decide +kernel))
set_option maxRecDepth 20000 in
theorem gL_tryIfEntitled_X5_ifEntitled : GoodIn wsL_tryIfEntitled (wsV RL 95 RX5 yX5_ifEntitled wsX5_ifEntitled) := goodIn_app (goodIn_of _ (by decide +kernel)) ggL_tryIfEntitled_X5_ifEntitled
theorem dL_tryIfEntitled_0 : decode cL_tryIfEntitled 0 = .ok (.aload_n 0, 1) := by decide +kernel
theorem dL_tryIfEntitled_1 : decode cL_tryIfEntitled 1 = .ok (.iload_n 1, 1) := by decide +kernel
theorem dL_tryIfEntitled_2 : decode cL_tryIfEntitled 2 = .ok (.iload_n 2, 1) := by decide +kernel
theorem dL_tryIfEntitled_3 : decode cL_tryIfEntitled 3 = .ok (.iload_n 3, 1) := by decide +kernel
theorem dL_tryIfEntitled_4 : decode cL_tryIfEntitled 4 = .ok (.invokevirtual 95, 3) := by decide +kernel
theorem dL_tryIfEntitled_7 : decode cL_tryIfEntitled 7 = .ok (.ireturn, 1) := by decide +kernel
theorem dL_tryIfEntitled_8 : decode cL_tryIfEntitled 8 = .ok (.astore 4, 2) := by decide +kernel
theorem dL_tryIfEntitled_10 : decode cL_tryIfEntitled 10 = .ok (.ldc 15, 2) := by decide +kernel
theorem dL_tryIfEntitled_12 : decode cL_tryIfEntitled 12 = .ok (.ireturn, 1) := by decide +kernel
theorem dL_tryIfEntitled_13 : decode cL_tryIfEntitled 13 = .ok (.astore 4, 2) := by decide +kernel
theorem dL_tryIfEntitled_15 : decode cL_tryIfEntitled 15 = .ok (.ldc 29, 2) := by decide +kernel
theorem dL_tryIfEntitled_17 : decode cL_tryIfEntitled 17 = .ok (.ireturn, 1) := by decide +kernel
set_option maxRecDepth 20000 in
theorem ggL_tryIfPrice_X5_ifPrice : GoodIn wsL_tryIfPrice wsX5_ifPrice := goodIn_ca (goodIn_r _ [7, 8, 9, 10, 11, 12, 13, 14, 15, 16, 17, 18, 19, 20, 21, 22, 23, 24, 25, 26, 27, 28, 29, 30, 31, 32, 33, 34, 35, 36, 37, 38, 39, 40, 41, 42, 43, 44, 45, 46, 47, 48, 49, 50, 51, 52, 53, 54, 55, 56, 57, 58, 59, 60, 61, 62, 63, 64, 65, 66, 67, 68, 69, 70, 71, 72, 73, 74, 75, 76, 77, 78, 79, 80, 81, 82, 83, 84, 85, 86, 87, 88, 89, 90, 91, 92, 93, 94, 95, 96, 97, 98, 99, 100, 101, 102, 103, 104, 105, 106, 107, 108, 109, 110, 111, 112, 113, 114, 115, 116, 117, 118] (by decide +kernel) (by decide +kernel)) (goodIn_sub (fun _ h => List.mem_cons_of_mem _ (List.mem_append_right _ h)) (by decide +kernel))
set_option maxRecDepth 20000 in
theorem gL_tryIfPrice_X5_ifPrice : GoodIn wsL_tryIfPrice (wsV RL 98 RX5 yX5_ifPrice wsX5_ifPrice) := goodIn_app (goodIn_of _ (by decide +kernel)) ggL_tryIfPrice_X5_ifPrice
theorem dL_tryIfPrice_0 : decode cL_tryIfPrice 0 = .ok (.aload_n 0, 1) := by decide +kernel
theorem dL_tryIfPrice_1 : decode cL_tryIfPrice 1 = .ok (.iload_n 1, 1) := by decide +kernel
theorem dL_tryIfPrice_2 : decode cL_tryIfPrice 2 = .ok (.invokevirtual 98, 3) := by decide +kernel
theorem dL_tryIfPrice_5 : decode cL_tryIfPrice 5 = .ok (.ireturn, 1) := by decide +kernel
theorem dL_tryIfPrice_6 : decode cL_tryIfPrice 6 = .ok (.astore_n 2, 1) := by decide +kernel
theorem dL_tryIfPrice_7 : decode cL_tryIfPrice 7 = .ok (.ldc 29, 2) := by decide +kernel
theorem dL_tryIfPrice_9 : decode cL_tryIfPrice 9 = .ok (.ireturn, 1) := by decide +kernel
set_option maxRecDepth 20000 in
theorem ggL_tryKeep_X5_save : GoodIn wsL_tryKeep wsX5_save := goodIn_ca (goodIn_r _ [7, 8, 9, 10, 11, 12, 13, 14, 15, 16, 17, 18, 19, 20, 21, 22, 23, 24, 25, 26, 27, 28, 29, 30, 31, 32, 33, 34, 35, 36, 37, 38, 39, 40, 41, 42, 43, 44, 45, 46, 47, 48, 49, 50, 51, 52, 53, 54, 55, 56, 57, 58, 59, 60, 61, 62, 63, 64, 65, 66, 67, 68, 69, 70, 71, 72] (by decide +kernel) (by decide +kernel)) (goodIn_sub (fun _ h => List.mem_cons_of_mem _ (List.mem_append_right _ h)) (by decide +kernel))
set_option maxRecDepth 20000 in
theorem gL_tryKeep_X5_save : GoodIn wsL_tryKeep (wsV RL 101 RX5 yX5_save wsX5_save) := goodIn_app (goodIn_of _ (by decide +kernel)) ggL_tryKeep_X5_save
theorem dL_tryKeep_0 : decode cL_tryKeep 0 = .ok (.aload_n 0, 1) := by decide +kernel
theorem dL_tryKeep_1 : decode cL_tryKeep 1 = .ok (.iload_n 1, 1) := by decide +kernel
theorem dL_tryKeep_2 : decode cL_tryKeep 2 = .ok (.invokevirtual 101, 3) := by decide +kernel
theorem dL_tryKeep_5 : decode cL_tryKeep 5 = .ok (.ireturn, 1) := by decide +kernel
theorem dL_tryKeep_6 : decode cL_tryKeep 6 = .ok (.astore_n 2, 1) := by decide +kernel
theorem dL_tryKeep_7 : decode cL_tryKeep 7 = .ok (.ldc 15, 2) := by decide +kernel
theorem dL_tryKeep_9 : decode cL_tryKeep 9 = .ok (.ireturn, 1) := by decide +kernel
set_option maxRecDepth 20000 in
theorem ggL_tryBack_X5_restore : GoodIn wsL_tryBack wsX5_restore := goodIn_ca (goodIn_ca (goodIn_r _ [9, 10, 11, 12, 13, 14, 15, 16, 17, 18, 19, 20, 21, 22, 23, 24, 25, 26, 27, 28, 29, 30, 31, 32, 33, 34, 35, 36, 37, 38, 39, 40, 41, 42, 43, 44, 45, 46, 47, 48, 49, 50, 51, 52, 53, 54, 55, 56, 57, 58, 59, 60, 61, 62, 63, 64, 65, 66, 67, 68, 69, 70, 71, 72, 73, 74, 75, 76, 77, 78, 79, 80, 81, 82, 83, 84, 85, 86] (by decide +kernel) (by decide +kernel)) (goodIn_sub (fun _ h => List.mem_cons_of_mem _ (List.mem_append_left _ (List.mem_append_right _ h))) (by decide +kernel))) (goodIn_sub (fun _ h => List.mem_cons_of_mem _ (List.mem_append_right _ h)) (by decide +kernel))
set_option maxRecDepth 20000 in
theorem gL_tryBack_X5_restore : GoodIn wsL_tryBack (wsV RL 104 RX5 yX5_restore wsX5_restore) := goodIn_app (goodIn_of _ (by decide +kernel)) ggL_tryBack_X5_restore
theorem dL_tryBack_0 : decode cL_tryBack 0 = .ok (.aload_n 0, 1) := by decide +kernel
theorem dL_tryBack_1 : decode cL_tryBack 1 = .ok (.iload_n 1, 1) := by decide +kernel
theorem dL_tryBack_2 : decode cL_tryBack 2 = .ok (.invokevirtual 104, 3) := by decide +kernel
theorem dL_tryBack_5 : decode cL_tryBack 5 = .ok (.ireturn, 1) := by decide +kernel
theorem dL_tryBack_6 : decode cL_tryBack 6 = .ok (.astore_n 2, 1) := by decide +kernel
theorem dL_tryBack_7 : decode cL_tryBack 7 = .ok (.ldc 15, 2) := by decide +kernel
theorem dL_tryBack_9 : decode cL_tryBack 9 = .ok (.ireturn, 1) := by decide +kernel
theorem dL_tryBack_10 : decode cL_tryBack 10 = .ok (.astore_n 2, 1) := by decide +kernel
theorem dL_tryBack_11 : decode cL_tryBack 11 = .ok (.ldc 18, 2) := by decide +kernel
theorem dL_tryBack_13 : decode cL_tryBack 13 = .ok (.ireturn, 1) := by decide +kernel
theorem dL_call_0 : decode cL_call 0 = .ok (.iload_n 1, 1) := by decide +kernel
theorem dL_call_1 : decode cL_call 1 = .ok (.tableswitch 252 0 21 #[103, 109, 114, 120, 127, 134, 141, 150, 156, 163, 170, 177, 186, 195, 201, 207, 214, 219, 225, 231, 240, 246], 103) := by decide +kernel
theorem dL_call_104 : decode cL_call 104 = .ok (.aload_n 0, 1) := by decide +kernel
theorem dL_call_105 : decode cL_call 105 = .ok (.iload_n 2, 1) := by decide +kernel
theorem dL_call_106 : decode cL_call 106 = .ok (.invokestatic 107, 3) := by decide +kernel
theorem dL_call_109 : decode cL_call 109 = .ok (.ireturn, 1) := by decide +kernel
theorem dL_call_110 : decode cL_call 110 = .ok (.aload_n 0, 1) := by decide +kernel
theorem dL_call_111 : decode cL_call 111 = .ok (.invokestatic 113, 3) := by decide +kernel
theorem dL_call_114 : decode cL_call 114 = .ok (.ireturn, 1) := by decide +kernel
theorem dL_call_115 : decode cL_call 115 = .ok (.aload_n 0, 1) := by decide +kernel
theorem dL_call_116 : decode cL_call 116 = .ok (.iload_n 2, 1) := by decide +kernel
theorem dL_call_117 : decode cL_call 117 = .ok (.invokestatic 117, 3) := by decide +kernel
theorem dL_call_120 : decode cL_call 120 = .ok (.ireturn, 1) := by decide +kernel
theorem dL_call_121 : decode cL_call 121 = .ok (.aload_n 0, 1) := by decide +kernel
theorem dL_call_122 : decode cL_call 122 = .ok (.iload_n 2, 1) := by decide +kernel
theorem dL_call_123 : decode cL_call 123 = .ok (.iload_n 3, 1) := by decide +kernel
theorem dL_call_124 : decode cL_call 124 = .ok (.invokestatic 120, 3) := by decide +kernel
theorem dL_call_127 : decode cL_call 127 = .ok (.ireturn, 1) := by decide +kernel
theorem dL_call_128 : decode cL_call 128 = .ok (.aload_n 0, 1) := by decide +kernel
theorem dL_call_129 : decode cL_call 129 = .ok (.iload_n 2, 1) := by decide +kernel
theorem dL_call_130 : decode cL_call 130 = .ok (.iload_n 3, 1) := by decide +kernel
theorem dL_call_131 : decode cL_call 131 = .ok (.invokestatic 124, 3) := by decide +kernel
theorem dL_call_134 : decode cL_call 134 = .ok (.ireturn, 1) := by decide +kernel
theorem dL_call_135 : decode cL_call 135 = .ok (.aload_n 0, 1) := by decide +kernel
theorem dL_call_136 : decode cL_call 136 = .ok (.iload_n 2, 1) := by decide +kernel
theorem dL_call_137 : decode cL_call 137 = .ok (.iload_n 3, 1) := by decide +kernel
theorem dL_call_138 : decode cL_call 138 = .ok (.invokestatic 127, 3) := by decide +kernel
theorem dL_call_141 : decode cL_call 141 = .ok (.ireturn, 1) := by decide +kernel
theorem dL_call_142 : decode cL_call 142 = .ok (.aload_n 0, 1) := by decide +kernel
theorem dL_call_143 : decode cL_call 143 = .ok (.iload_n 2, 1) := by decide +kernel
theorem dL_call_144 : decode cL_call 144 = .ok (.iload_n 3, 1) := by decide +kernel
theorem dL_call_145 : decode cL_call 145 = .ok (.iload 4, 2) := by decide +kernel
theorem dL_call_147 : decode cL_call 147 = .ok (.invokestatic 130, 3) := by decide +kernel
theorem dL_call_150 : decode cL_call 150 = .ok (.ireturn, 1) := by decide +kernel
theorem dL_call_151 : decode cL_call 151 = .ok (.aload_n 0, 1) := by decide +kernel
theorem dL_call_152 : decode cL_call 152 = .ok (.iload_n 2, 1) := by decide +kernel
theorem dL_call_153 : decode cL_call 153 = .ok (.invokestatic 134, 3) := by decide +kernel
theorem dL_call_156 : decode cL_call 156 = .ok (.ireturn, 1) := by decide +kernel
theorem dL_call_157 : decode cL_call 157 = .ok (.aload_n 0, 1) := by decide +kernel
theorem dL_call_158 : decode cL_call 158 = .ok (.iload_n 2, 1) := by decide +kernel
theorem dL_call_159 : decode cL_call 159 = .ok (.iload_n 3, 1) := by decide +kernel
theorem dL_call_160 : decode cL_call 160 = .ok (.invokestatic 137, 3) := by decide +kernel
theorem dL_call_163 : decode cL_call 163 = .ok (.ireturn, 1) := by decide +kernel
theorem dL_call_164 : decode cL_call 164 = .ok (.aload_n 0, 1) := by decide +kernel
theorem dL_call_165 : decode cL_call 165 = .ok (.iload_n 2, 1) := by decide +kernel
theorem dL_call_166 : decode cL_call 166 = .ok (.iload_n 3, 1) := by decide +kernel
theorem dL_call_167 : decode cL_call 167 = .ok (.invokestatic 140, 3) := by decide +kernel
theorem dL_call_170 : decode cL_call 170 = .ok (.ireturn, 1) := by decide +kernel
theorem dL_call_171 : decode cL_call 171 = .ok (.aload_n 0, 1) := by decide +kernel
theorem dL_call_172 : decode cL_call 172 = .ok (.iload_n 2, 1) := by decide +kernel
theorem dL_call_173 : decode cL_call 173 = .ok (.iload_n 3, 1) := by decide +kernel
theorem dL_call_174 : decode cL_call 174 = .ok (.invokestatic 143, 3) := by decide +kernel
theorem dL_call_177 : decode cL_call 177 = .ok (.ireturn, 1) := by decide +kernel
theorem dL_call_178 : decode cL_call 178 = .ok (.aload_n 0, 1) := by decide +kernel
theorem dL_call_179 : decode cL_call 179 = .ok (.iload_n 2, 1) := by decide +kernel
theorem dL_call_180 : decode cL_call 180 = .ok (.iload_n 3, 1) := by decide +kernel
theorem dL_call_181 : decode cL_call 181 = .ok (.iload 4, 2) := by decide +kernel
theorem dL_call_183 : decode cL_call 183 = .ok (.invokestatic 146, 3) := by decide +kernel
theorem dL_call_186 : decode cL_call 186 = .ok (.ireturn, 1) := by decide +kernel
theorem dL_call_187 : decode cL_call 187 = .ok (.aload_n 0, 1) := by decide +kernel
theorem dL_call_188 : decode cL_call 188 = .ok (.iload_n 2, 1) := by decide +kernel
theorem dL_call_189 : decode cL_call 189 = .ok (.iload_n 3, 1) := by decide +kernel
theorem dL_call_190 : decode cL_call 190 = .ok (.iload 4, 2) := by decide +kernel
theorem dL_call_192 : decode cL_call 192 = .ok (.invokestatic 149, 3) := by decide +kernel
theorem dL_call_195 : decode cL_call 195 = .ok (.ireturn, 1) := by decide +kernel
theorem dL_call_196 : decode cL_call 196 = .ok (.aload_n 0, 1) := by decide +kernel
theorem dL_call_197 : decode cL_call 197 = .ok (.iload_n 2, 1) := by decide +kernel
theorem dL_call_198 : decode cL_call 198 = .ok (.invokestatic 152, 3) := by decide +kernel
theorem dL_call_201 : decode cL_call 201 = .ok (.ireturn, 1) := by decide +kernel
theorem dL_call_202 : decode cL_call 202 = .ok (.aload_n 0, 1) := by decide +kernel
theorem dL_call_203 : decode cL_call 203 = .ok (.iload_n 2, 1) := by decide +kernel
theorem dL_call_204 : decode cL_call 204 = .ok (.invokestatic 155, 3) := by decide +kernel
theorem dL_call_207 : decode cL_call 207 = .ok (.ireturn, 1) := by decide +kernel
theorem dL_call_208 : decode cL_call 208 = .ok (.aload_n 0, 1) := by decide +kernel
theorem dL_call_209 : decode cL_call 209 = .ok (.iload_n 2, 1) := by decide +kernel
theorem dL_call_210 : decode cL_call 210 = .ok (.iload_n 3, 1) := by decide +kernel
theorem dL_call_211 : decode cL_call 211 = .ok (.invokestatic 158, 3) := by decide +kernel
theorem dL_call_214 : decode cL_call 214 = .ok (.ireturn, 1) := by decide +kernel
theorem dL_call_215 : decode cL_call 215 = .ok (.aload_n 0, 1) := by decide +kernel
theorem dL_call_216 : decode cL_call 216 = .ok (.invokestatic 161, 3) := by decide +kernel
theorem dL_call_219 : decode cL_call 219 = .ok (.ireturn, 1) := by decide +kernel
theorem dL_call_220 : decode cL_call 220 = .ok (.aload_n 0, 1) := by decide +kernel
theorem dL_call_221 : decode cL_call 221 = .ok (.iload_n 2, 1) := by decide +kernel
theorem dL_call_222 : decode cL_call 222 = .ok (.invokestatic 164, 3) := by decide +kernel
theorem dL_call_225 : decode cL_call 225 = .ok (.ireturn, 1) := by decide +kernel
theorem dL_call_226 : decode cL_call 226 = .ok (.aload_n 0, 1) := by decide +kernel
theorem dL_call_227 : decode cL_call 227 = .ok (.iload_n 2, 1) := by decide +kernel
theorem dL_call_228 : decode cL_call 228 = .ok (.invokestatic 167, 3) := by decide +kernel
theorem dL_call_231 : decode cL_call 231 = .ok (.ireturn, 1) := by decide +kernel
theorem dL_call_232 : decode cL_call 232 = .ok (.aload_n 0, 1) := by decide +kernel
theorem dL_call_233 : decode cL_call 233 = .ok (.iload_n 2, 1) := by decide +kernel
theorem dL_call_234 : decode cL_call 234 = .ok (.iload_n 3, 1) := by decide +kernel
theorem dL_call_235 : decode cL_call 235 = .ok (.iload 4, 2) := by decide +kernel
theorem dL_call_237 : decode cL_call 237 = .ok (.invokestatic 170, 3) := by decide +kernel
theorem dL_call_240 : decode cL_call 240 = .ok (.ireturn, 1) := by decide +kernel
theorem dL_call_241 : decode cL_call 241 = .ok (.aload_n 0, 1) := by decide +kernel
theorem dL_call_242 : decode cL_call 242 = .ok (.iload_n 2, 1) := by decide +kernel
theorem dL_call_243 : decode cL_call 243 = .ok (.invokestatic 173, 3) := by decide +kernel
theorem dL_call_246 : decode cL_call 246 = .ok (.ireturn, 1) := by decide +kernel
theorem dL_call_247 : decode cL_call 247 = .ok (.aload_n 0, 1) := by decide +kernel
theorem dL_call_248 : decode cL_call 248 = .ok (.iload_n 2, 1) := by decide +kernel
theorem dL_call_249 : decode cL_call 249 = .ok (.invokestatic 176, 3) := by decide +kernel
theorem dL_call_252 : decode cL_call 252 = .ok (.ireturn, 1) := by decide +kernel
theorem dL_call_253 : decode cL_call 253 = .ok (.aload_n 0, 1) := by decide +kernel
theorem dL_call_254 : decode cL_call 254 = .ok (.iload_n 2, 1) := by decide +kernel
theorem dL_call_255 : decode cL_call 255 = .ok (.invokestatic 179, 3) := by decide +kernel
theorem dL_call_258 : decode cL_call 258 = .ok (.ireturn, 1) := by decide +kernel
theorem dL_cell_0 : decode cL_cell 0 = .ok (.iload_n 1, 1) := by decide +kernel
theorem dL_cell_1 : decode cL_cell 1 = .ok (.aload_n 0, 1) := by decide +kernel
theorem dL_cell_2 : decode cL_cell 2 = .ok (.arraylength, 1) := by decide +kernel
theorem dL_cell_3 : decode cL_cell 3 = .ok (.if_icmp .ge 9, 3) := by decide +kernel
theorem dL_cell_6 : decode cL_cell 6 = .ok (.aload_n 0, 1) := by decide +kernel
theorem dL_cell_7 : decode cL_cell 7 = .ok (.iload_n 1, 1) := by decide +kernel
theorem dL_cell_8 : decode cL_cell 8 = .ok (.iaload, 1) := by decide +kernel
theorem dL_cell_9 : decode cL_cell 9 = .ok (.goto 13, 3) := by decide +kernel
theorem dL_cell_12 : decode cL_cell 12 = .ok (.ldc 182, 2) := by decide +kernel
theorem dL_cell_14 : decode cL_cell 14 = .ok (.iload_n 1, 1) := by decide +kernel
theorem dL_cell_15 : decode cL_cell 15 = .ok (.iconst 3, 1) := by decide +kernel
theorem dL_cell_16 : decode cL_cell 16 = .ok (.iadd, 1) := by decide +kernel
theorem dL_cell_17 : decode cL_cell 17 = .ok (.imul, 1) := by decide +kernel
theorem dL_cell_18 : decode cL_cell 18 = .ok (.sipush 10723, 3) := by decide +kernel
theorem dL_cell_21 : decode cL_cell 21 = .ok (.iadd, 1) := by decide +kernel
theorem dL_cell_22 : decode cL_cell 22 = .ok (.ldc 183, 2) := by decide +kernel
theorem dL_cell_24 : decode cL_cell 24 = .ok (.iand, 1) := by decide +kernel
theorem dL_cell_25 : decode cL_cell 25 = .ok (.ireturn, 1) := by decide +kernel
theorem dL_refuses_0 : decode cL_refuses 0 = .ok (.aload_n 0, 1) := by decide +kernel
theorem dL_refuses_1 : decode cL_refuses 1 = .ok (.iconst 2, 1) := by decide +kernel
theorem dL_refuses_2 : decode cL_refuses 2 = .ok (.iconst 1, 1) := by decide +kernel
theorem dL_refuses_3 : decode cL_refuses 3 = .ok (.iconst 0, 1) := by decide +kernel
theorem dL_refuses_4 : decode cL_refuses 4 = .ok (.iconst 0, 1) := by decide +kernel
theorem dL_refuses_5 : decode cL_refuses 5 = .ok (.invokestatic 184, 3) := by decide +kernel
theorem dL_refuses_8 : decode cL_refuses 8 = .ok (.istore_n 2, 1) := by decide +kernel
theorem dL_refuses_9 : decode cL_refuses 9 = .ok (.aload_n 0, 1) := by decide +kernel
theorem dL_refuses_10 : decode cL_refuses 10 = .ok (.iconst 2, 1) := by decide +kernel
theorem dL_refuses_11 : decode cL_refuses 11 = .ok (.iconst 0, 1) := by decide +kernel
theorem dL_refuses_12 : decode cL_refuses 12 = .ok (.iconst 0, 1) := by decide +kernel
theorem dL_refuses_13 : decode cL_refuses 13 = .ok (.iconst 0, 1) := by decide +kernel
theorem dL_refuses_14 : decode cL_refuses 14 = .ok (.invokestatic 184, 3) := by decide +kernel
theorem dL_refuses_17 : decode cL_refuses 17 = .ok (.istore_n 3, 1) := by decide +kernel
theorem dL_refuses_18 : decode cL_refuses 18 = .ok (.aload_n 0, 1) := by decide +kernel
theorem dL_refuses_19 : decode cL_refuses 19 = .ok (.iconst 2, 1) := by decide +kernel
theorem dL_refuses_20 : decode cL_refuses 20 = .ok (.bipush 12, 2) := by decide +kernel
theorem dL_refuses_22 : decode cL_refuses 22 = .ok (.iload_n 1, 1) := by decide +kernel
theorem dL_refuses_23 : decode cL_refuses 23 = .ok (.bipush 9, 2) := by decide +kernel
theorem dL_refuses_25 : decode cL_refuses 25 = .ok (.irem, 1) := by decide +kernel
theorem dL_refuses_26 : decode cL_refuses 26 = .ok (.iadd, 1) := by decide +kernel
theorem dL_refuses_27 : decode cL_refuses 27 = .ok (.iconst 0, 1) := by decide +kernel
theorem dL_refuses_28 : decode cL_refuses 28 = .ok (.iconst 0, 1) := by decide +kernel
theorem dL_refuses_29 : decode cL_refuses 29 = .ok (.invokestatic 184, 3) := by decide +kernel
theorem dL_refuses_32 : decode cL_refuses 32 = .ok (.ldc 29, 2) := by decide +kernel
theorem dL_refuses_34 : decode cL_refuses 34 = .ok (.if_icmp .ne 186, 3) := by decide +kernel
theorem dL_refuses_37 : decode cL_refuses 37 = .ok (.aload_n 0, 1) := by decide +kernel
theorem dL_refuses_38 : decode cL_refuses 38 = .ok (.iconst 3, 1) := by decide +kernel
theorem dL_refuses_39 : decode cL_refuses 39 = .ok (.iload_n 2, 1) := by decide +kernel
theorem dL_refuses_40 : decode cL_refuses 40 = .ok (.bipush 9, 2) := by decide +kernel
theorem dL_refuses_42 : decode cL_refuses 42 = .ok (.iconst 0, 1) := by decide +kernel
theorem dL_refuses_43 : decode cL_refuses 43 = .ok (.invokestatic 184, 3) := by decide +kernel
theorem dL_refuses_46 : decode cL_refuses 46 = .ok (.ldc 15, 2) := by decide +kernel
theorem dL_refuses_48 : decode cL_refuses 48 = .ok (.if_icmp .ne 172, 3) := by decide +kernel
theorem dL_refuses_51 : decode cL_refuses 51 = .ok (.aload_n 0, 1) := by decide +kernel
theorem dL_refuses_52 : decode cL_refuses 52 = .ok (.iconst 4, 1) := by decide +kernel
theorem dL_refuses_53 : decode cL_refuses 53 = .ok (.iconst 5, 1) := by decide +kernel
theorem dL_refuses_54 : decode cL_refuses 54 = .ok (.iload_n 1, 1) := by decide +kernel
theorem dL_refuses_55 : decode cL_refuses 55 = .ok (.bipush 9, 2) := by decide +kernel
theorem dL_refuses_57 : decode cL_refuses 57 = .ok (.irem, 1) := by decide +kernel
theorem dL_refuses_58 : decode cL_refuses 58 = .ok (.iadd, 1) := by decide +kernel
theorem dL_refuses_59 : decode cL_refuses 59 = .ok (.bipush 9, 2) := by decide +kernel
theorem dL_refuses_61 : decode cL_refuses 61 = .ok (.iconst 0, 1) := by decide +kernel
theorem dL_refuses_62 : decode cL_refuses 62 = .ok (.invokestatic 184, 3) := by decide +kernel
theorem dL_refuses_65 : decode cL_refuses 65 = .ok (.ldc 15, 2) := by decide +kernel
theorem dL_refuses_67 : decode cL_refuses 67 = .ok (.if_icmp .ne 153, 3) := by decide +kernel
theorem dL_refuses_70 : decode cL_refuses 70 = .ok (.aload_n 0, 1) := by decide +kernel
theorem dL_refuses_71 : decode cL_refuses 71 = .ok (.iconst 4, 1) := by decide +kernel
theorem dL_refuses_72 : decode cL_refuses 72 = .ok (.iload_n 1, 1) := by decide +kernel
theorem dL_refuses_73 : decode cL_refuses 73 = .ok (.iconst 5, 1) := by decide +kernel
theorem dL_refuses_74 : decode cL_refuses 74 = .ok (.irem, 1) := by decide +kernel
theorem dL_refuses_75 : decode cL_refuses 75 = .ok (.iconst 5, 1) := by decide +kernel
theorem dL_refuses_76 : decode cL_refuses 76 = .ok (.iload_n 1, 1) := by decide +kernel
theorem dL_refuses_77 : decode cL_refuses 77 = .ok (.bipush 9, 2) := by decide +kernel
theorem dL_refuses_79 : decode cL_refuses 79 = .ok (.irem, 1) := by decide +kernel
theorem dL_refuses_80 : decode cL_refuses 80 = .ok (.iadd, 1) := by decide +kernel
theorem dL_refuses_81 : decode cL_refuses 81 = .ok (.iconst 0, 1) := by decide +kernel
theorem dL_refuses_82 : decode cL_refuses 82 = .ok (.invokestatic 184, 3) := by decide +kernel
theorem dL_refuses_85 : decode cL_refuses 85 = .ok (.ldc 29, 2) := by decide +kernel
theorem dL_refuses_87 : decode cL_refuses 87 = .ok (.if_icmp .ne 133, 3) := by decide +kernel
theorem dL_refuses_90 : decode cL_refuses 90 = .ok (.aload_n 0, 1) := by decide +kernel
theorem dL_refuses_91 : decode cL_refuses 91 = .ok (.iconst 5, 1) := by decide +kernel
theorem dL_refuses_92 : decode cL_refuses 92 = .ok (.bipush 40, 2) := by decide +kernel
theorem dL_refuses_94 : decode cL_refuses 94 = .ok (.bipush 9, 2) := by decide +kernel
theorem dL_refuses_96 : decode cL_refuses 96 = .ok (.iconst 0, 1) := by decide +kernel
theorem dL_refuses_97 : decode cL_refuses 97 = .ok (.invokestatic 184, 3) := by decide +kernel
theorem dL_refuses_100 : decode cL_refuses 100 = .ok (.ldc 15, 2) := by decide +kernel
theorem dL_refuses_102 : decode cL_refuses 102 = .ok (.if_icmp .ne 118, 3) := by decide +kernel
theorem dL_refuses_105 : decode cL_refuses 105 = .ok (.aload_n 0, 1) := by decide +kernel
theorem dL_refuses_106 : decode cL_refuses 106 = .ok (.iconst 5, 1) := by decide +kernel
theorem dL_refuses_107 : decode cL_refuses 107 = .ok (.iload_n 1, 1) := by decide +kernel
theorem dL_refuses_108 : decode cL_refuses 108 = .ok (.bipush 40, 2) := by decide +kernel
theorem dL_refuses_110 : decode cL_refuses 110 = .ok (.irem, 1) := by decide +kernel
theorem dL_refuses_111 : decode cL_refuses 111 = .ok (.iconst 4, 1) := by decide +kernel
theorem dL_refuses_112 : decode cL_refuses 112 = .ok (.iload_n 1, 1) := by decide +kernel
theorem dL_refuses_113 : decode cL_refuses 113 = .ok (.bipush 9, 2) := by decide +kernel
theorem dL_refuses_115 : decode cL_refuses 115 = .ok (.irem, 1) := by decide +kernel
theorem dL_refuses_116 : decode cL_refuses 116 = .ok (.iadd, 1) := by decide +kernel
theorem dL_refuses_117 : decode cL_refuses 117 = .ok (.iconst 0, 1) := by decide +kernel
theorem dL_refuses_118 : decode cL_refuses 118 = .ok (.invokestatic 184, 3) := by decide +kernel
theorem dL_refuses_121 : decode cL_refuses 121 = .ok (.ldc 29, 2) := by decide +kernel
theorem dL_refuses_123 : decode cL_refuses 123 = .ok (.if_icmp .ne 97, 3) := by decide +kernel
theorem dL_refuses_126 : decode cL_refuses 126 = .ok (.aload_n 0, 1) := by decide +kernel
theorem dL_refuses_127 : decode cL_refuses 127 = .ok (.bipush 6, 2) := by decide +kernel
theorem dL_refuses_129 : decode cL_refuses 129 = .ok (.iload_n 2, 1) := by decide +kernel
theorem dL_refuses_130 : decode cL_refuses 130 = .ok (.iconst 0, 1) := by decide +kernel
theorem dL_refuses_131 : decode cL_refuses 131 = .ok (.bipush 9, 2) := by decide +kernel
theorem dL_refuses_133 : decode cL_refuses 133 = .ok (.invokestatic 184, 3) := by decide +kernel
theorem dL_refuses_136 : decode cL_refuses 136 = .ok (.ldc 15, 2) := by decide +kernel
theorem dL_refuses_138 : decode cL_refuses 138 = .ok (.if_icmp .ne 82, 3) := by decide +kernel
theorem dL_refuses_141 : decode cL_refuses 141 = .ok (.aload_n 0, 1) := by decide +kernel
theorem dL_refuses_142 : decode cL_refuses 142 = .ok (.bipush 7, 2) := by decide +kernel
theorem dL_refuses_144 : decode cL_refuses 144 = .ok (.iconst 2, 1) := by decide +kernel
theorem dL_refuses_145 : decode cL_refuses 145 = .ok (.iload_n 1, 1) := by decide +kernel
theorem dL_refuses_146 : decode cL_refuses 146 = .ok (.bipush 9, 2) := by decide +kernel
theorem dL_refuses_148 : decode cL_refuses 148 = .ok (.irem, 1) := by decide +kernel
theorem dL_refuses_149 : decode cL_refuses 149 = .ok (.iadd, 1) := by decide +kernel
theorem dL_refuses_150 : decode cL_refuses 150 = .ok (.iconst 0, 1) := by decide +kernel
theorem dL_refuses_151 : decode cL_refuses 151 = .ok (.iconst 0, 1) := by decide +kernel
theorem dL_refuses_152 : decode cL_refuses 152 = .ok (.invokestatic 184, 3) := by decide +kernel
theorem dL_refuses_155 : decode cL_refuses 155 = .ok (.ldc 29, 2) := by decide +kernel
theorem dL_refuses_157 : decode cL_refuses 157 = .ok (.if_icmp .ne 63, 3) := by decide +kernel
theorem dL_refuses_160 : decode cL_refuses 160 = .ok (.aload_n 0, 1) := by decide +kernel
theorem dL_refuses_161 : decode cL_refuses 161 = .ok (.bipush 8, 2) := by decide +kernel
theorem dL_refuses_163 : decode cL_refuses 163 = .ok (.iconst (-1), 1) := by decide +kernel
theorem dL_refuses_164 : decode cL_refuses 164 = .ok (.bipush 9, 2) := by decide +kernel
theorem dL_refuses_166 : decode cL_refuses 166 = .ok (.iconst 0, 1) := by decide +kernel
theorem dL_refuses_167 : decode cL_refuses 167 = .ok (.invokestatic 184, 3) := by decide +kernel
theorem dL_refuses_170 : decode cL_refuses 170 = .ok (.ldc 15, 2) := by decide +kernel
theorem dL_refuses_172 : decode cL_refuses 172 = .ok (.if_icmp .ne 48, 3) := by decide +kernel
theorem dL_refuses_175 : decode cL_refuses 175 = .ok (.aload_n 0, 1) := by decide +kernel
theorem dL_refuses_176 : decode cL_refuses 176 = .ok (.bipush 8, 2) := by decide +kernel
theorem dL_refuses_178 : decode cL_refuses 178 = .ok (.iload_n 1, 1) := by decide +kernel
theorem dL_refuses_179 : decode cL_refuses 179 = .ok (.iconst 5, 1) := by decide +kernel
theorem dL_refuses_180 : decode cL_refuses 180 = .ok (.irem, 1) := by decide +kernel
theorem dL_refuses_181 : decode cL_refuses 181 = .ok (.iconst 4, 1) := by decide +kernel
theorem dL_refuses_182 : decode cL_refuses 182 = .ok (.iload_n 1, 1) := by decide +kernel
theorem dL_refuses_183 : decode cL_refuses 183 = .ok (.bipush 9, 2) := by decide +kernel
theorem dL_refuses_185 : decode cL_refuses 185 = .ok (.irem, 1) := by decide +kernel
theorem dL_refuses_186 : decode cL_refuses 186 = .ok (.iadd, 1) := by decide +kernel
theorem dL_refuses_187 : decode cL_refuses 187 = .ok (.iconst 0, 1) := by decide +kernel
theorem dL_refuses_188 : decode cL_refuses 188 = .ok (.invokestatic 184, 3) := by decide +kernel
theorem dL_refuses_191 : decode cL_refuses 191 = .ok (.ldc 29, 2) := by decide +kernel
theorem dL_refuses_193 : decode cL_refuses 193 = .ok (.if_icmp .ne 27, 3) := by decide +kernel
theorem dL_refuses_196 : decode cL_refuses 196 = .ok (.iload_n 2, 1) := by decide +kernel
theorem dL_refuses_197 : decode cL_refuses 197 = .ok (.bipush 12, 2) := by decide +kernel
theorem dL_refuses_199 : decode cL_refuses 199 = .ok (.if_icmp .lt 17, 3) := by decide +kernel
theorem dL_refuses_202 : decode cL_refuses 202 = .ok (.aload_n 0, 1) := by decide +kernel
theorem dL_refuses_203 : decode cL_refuses 203 = .ok (.bipush 8, 2) := by decide +kernel
theorem dL_refuses_205 : decode cL_refuses 205 = .ok (.iconst 0, 1) := by decide +kernel
theorem dL_refuses_206 : decode cL_refuses 206 = .ok (.iconst 0, 1) := by decide +kernel
theorem dL_refuses_207 : decode cL_refuses 207 = .ok (.iconst 0, 1) := by decide +kernel
theorem dL_refuses_208 : decode cL_refuses 208 = .ok (.invokestatic 184, 3) := by decide +kernel
theorem dL_refuses_211 : decode cL_refuses 211 = .ok (.ldc 18, 2) := by decide +kernel
theorem dL_refuses_213 : decode cL_refuses 213 = .ok (.if_icmp .ne 7, 3) := by decide +kernel
theorem dL_refuses_216 : decode cL_refuses 216 = .ok (.iconst 1, 1) := by decide +kernel
theorem dL_refuses_217 : decode cL_refuses 217 = .ok (.goto 4, 3) := by decide +kernel
theorem dL_refuses_220 : decode cL_refuses 220 = .ok (.iconst 0, 1) := by decide +kernel
theorem dL_refuses_221 : decode cL_refuses 221 = .ok (.istore 4, 2) := by decide +kernel
theorem dL_refuses_223 : decode cL_refuses 223 = .ok (.iload 4, 2) := by decide +kernel
theorem dL_refuses_225 : decode cL_refuses 225 = .ok (.ifCond .eq 214, 3) := by decide +kernel
theorem dL_refuses_228 : decode cL_refuses 228 = .ok (.aload_n 0, 1) := by decide +kernel
theorem dL_refuses_229 : decode cL_refuses 229 = .ok (.bipush 9, 2) := by decide +kernel
theorem dL_refuses_231 : decode cL_refuses 231 = .ok (.bipush 40, 2) := by decide +kernel
theorem dL_refuses_233 : decode cL_refuses 233 = .ok (.iload_n 1, 1) := by decide +kernel
theorem dL_refuses_234 : decode cL_refuses 234 = .ok (.bipush 9, 2) := by decide +kernel
theorem dL_refuses_236 : decode cL_refuses 236 = .ok (.irem, 1) := by decide +kernel
theorem dL_refuses_237 : decode cL_refuses 237 = .ok (.iadd, 1) := by decide +kernel
theorem dL_refuses_238 : decode cL_refuses 238 = .ok (.bipush 9, 2) := by decide +kernel
theorem dL_refuses_240 : decode cL_refuses 240 = .ok (.iconst 0, 1) := by decide +kernel
theorem dL_refuses_241 : decode cL_refuses 241 = .ok (.invokestatic 184, 3) := by decide +kernel
theorem dL_refuses_244 : decode cL_refuses 244 = .ok (.ldc 15, 2) := by decide +kernel
theorem dL_refuses_246 : decode cL_refuses 246 = .ok (.if_icmp .ne 193, 3) := by decide +kernel
theorem dL_refuses_249 : decode cL_refuses 249 = .ok (.aload_n 0, 1) := by decide +kernel
theorem dL_refuses_250 : decode cL_refuses 250 = .ok (.bipush 9, 2) := by decide +kernel
theorem dL_refuses_252 : decode cL_refuses 252 = .ok (.iload_n 1, 1) := by decide +kernel
theorem dL_refuses_253 : decode cL_refuses 253 = .ok (.bipush 40, 2) := by decide +kernel
theorem dL_refuses_255 : decode cL_refuses 255 = .ok (.irem, 1) := by decide +kernel
theorem dL_refuses_256 : decode cL_refuses 256 = .ok (.iconst 4, 1) := by decide +kernel
theorem dL_refuses_257 : decode cL_refuses 257 = .ok (.iload_n 1, 1) := by decide +kernel
theorem dL_refuses_258 : decode cL_refuses 258 = .ok (.bipush 9, 2) := by decide +kernel
theorem dL_refuses_260 : decode cL_refuses 260 = .ok (.irem, 1) := by decide +kernel
theorem dL_refuses_261 : decode cL_refuses 261 = .ok (.iadd, 1) := by decide +kernel
theorem dL_refuses_262 : decode cL_refuses 262 = .ok (.iconst 0, 1) := by decide +kernel
theorem dL_refuses_263 : decode cL_refuses 263 = .ok (.invokestatic 184, 3) := by decide +kernel
theorem dL_refuses_266 : decode cL_refuses 266 = .ok (.ldc 29, 2) := by decide +kernel
theorem dL_refuses_268 : decode cL_refuses 268 = .ok (.if_icmp .ne 171, 3) := by decide +kernel
theorem dL_refuses_271 : decode cL_refuses 271 = .ok (.iload_n 3, 1) := by decide +kernel
theorem dL_refuses_272 : decode cL_refuses 272 = .ok (.ifCond .eq 21, 3) := by decide +kernel
theorem dL_refuses_275 : decode cL_refuses 275 = .ok (.aload_n 0, 1) := by decide +kernel
theorem dL_refuses_276 : decode cL_refuses 276 = .ok (.bipush 9, 2) := by decide +kernel
theorem dL_refuses_278 : decode cL_refuses 278 = .ok (.iload_n 1, 1) := by decide +kernel
theorem dL_refuses_279 : decode cL_refuses 279 = .ok (.iload_n 3, 1) := by decide +kernel
theorem dL_refuses_280 : decode cL_refuses 280 = .ok (.irem, 1) := by decide +kernel
theorem dL_refuses_281 : decode cL_refuses 281 = .ok (.iload_n 1, 1) := by decide +kernel
theorem dL_refuses_282 : decode cL_refuses 282 = .ok (.iconst 4, 1) := by decide +kernel
theorem dL_refuses_283 : decode cL_refuses 283 = .ok (.irem, 1) := by decide +kernel
theorem dL_refuses_284 : decode cL_refuses 284 = .ok (.iconst 0, 1) := by decide +kernel
theorem dL_refuses_285 : decode cL_refuses 285 = .ok (.invokestatic 184, 3) := by decide +kernel
theorem dL_refuses_288 : decode cL_refuses 288 = .ok (.ldc 18, 2) := by decide +kernel
theorem dL_refuses_290 : decode cL_refuses 290 = .ok (.if_icmp .ne 149, 3) := by decide +kernel
theorem dL_refuses_293 : decode cL_refuses 293 = .ok (.aload_n 0, 1) := by decide +kernel
theorem dL_refuses_294 : decode cL_refuses 294 = .ok (.iload_n 2, 1) := by decide +kernel
theorem dL_refuses_295 : decode cL_refuses 295 = .ok (.iconst 0, 1) := by decide +kernel
theorem dL_refuses_296 : decode cL_refuses 296 = .ok (.iconst 1, 1) := by decide +kernel
theorem dL_refuses_297 : decode cL_refuses 297 = .ok (.invokestatic 188, 3) := by decide +kernel
theorem dL_refuses_300 : decode cL_refuses 300 = .ok (.ldc 15, 2) := by decide +kernel
theorem dL_refuses_302 : decode cL_refuses 302 = .ok (.if_icmp .ne 137, 3) := by decide +kernel
theorem dL_refuses_305 : decode cL_refuses 305 = .ok (.aload_n 0, 1) := by decide +kernel
theorem dL_refuses_306 : decode cL_refuses 306 = .ok (.bipush 10, 2) := by decide +kernel
theorem dL_refuses_308 : decode cL_refuses 308 = .ok (.iload_n 2, 1) := by decide +kernel
theorem dL_refuses_309 : decode cL_refuses 309 = .ok (.iload_n 1, 1) := by decide +kernel
theorem dL_refuses_310 : decode cL_refuses 310 = .ok (.bipush 9, 2) := by decide +kernel
theorem dL_refuses_312 : decode cL_refuses 312 = .ok (.irem, 1) := by decide +kernel
theorem dL_refuses_313 : decode cL_refuses 313 = .ok (.iadd, 1) := by decide +kernel
theorem dL_refuses_314 : decode cL_refuses 314 = .ok (.iconst 0, 1) := by decide +kernel
theorem dL_refuses_315 : decode cL_refuses 315 = .ok (.iconst 0, 1) := by decide +kernel
theorem dL_refuses_316 : decode cL_refuses 316 = .ok (.invokestatic 184, 3) := by decide +kernel
theorem dL_refuses_319 : decode cL_refuses 319 = .ok (.ldc 15, 2) := by decide +kernel
theorem dL_refuses_321 : decode cL_refuses 321 = .ok (.if_icmp .ne 118, 3) := by decide +kernel
theorem dL_refuses_324 : decode cL_refuses 324 = .ok (.aload_n 0, 1) := by decide +kernel
theorem dL_refuses_325 : decode cL_refuses 325 = .ok (.bipush 11, 2) := by decide +kernel
theorem dL_refuses_327 : decode cL_refuses 327 = .ok (.iconst 0, 1) := by decide +kernel
theorem dL_refuses_328 : decode cL_refuses 328 = .ok (.iload_n 2, 1) := by decide +kernel
theorem dL_refuses_329 : decode cL_refuses 329 = .ok (.iconst 0, 1) := by decide +kernel
theorem dL_refuses_330 : decode cL_refuses 330 = .ok (.invokestatic 184, 3) := by decide +kernel
theorem dL_refuses_333 : decode cL_refuses 333 = .ok (.ldc 15, 2) := by decide +kernel
theorem dL_refuses_335 : decode cL_refuses 335 = .ok (.if_icmp .ne 104, 3) := by decide +kernel
theorem dL_refuses_338 : decode cL_refuses 338 = .ok (.aload_n 0, 1) := by decide +kernel
theorem dL_refuses_339 : decode cL_refuses 339 = .ok (.iconst (-1), 1) := by decide +kernel
theorem dL_refuses_340 : decode cL_refuses 340 = .ok (.iload_n 1, 1) := by decide +kernel
theorem dL_refuses_341 : decode cL_refuses 341 = .ok (.bipush 9, 2) := by decide +kernel
theorem dL_refuses_343 : decode cL_refuses 343 = .ok (.irem, 1) := by decide +kernel
theorem dL_refuses_344 : decode cL_refuses 344 = .ok (.isub, 1) := by decide +kernel
theorem dL_refuses_345 : decode cL_refuses 345 = .ok (.iconst 1, 1) := by decide +kernel
theorem dL_refuses_346 : decode cL_refuses 346 = .ok (.invokestatic 192, 3) := by decide +kernel
theorem dL_refuses_349 : decode cL_refuses 349 = .ok (.ldc 15, 2) := by decide +kernel
theorem dL_refuses_351 : decode cL_refuses 351 = .ok (.if_icmp .ne 88, 3) := by decide +kernel
theorem dL_refuses_354 : decode cL_refuses 354 = .ok (.aload_n 0, 1) := by decide +kernel
theorem dL_refuses_355 : decode cL_refuses 355 = .ok (.bipush 12, 2) := by decide +kernel
theorem dL_refuses_357 : decode cL_refuses 357 = .ok (.iload_n 2, 1) := by decide +kernel
theorem dL_refuses_358 : decode cL_refuses 358 = .ok (.iconst 0, 1) := by decide +kernel
theorem dL_refuses_359 : decode cL_refuses 359 = .ok (.iconst 0, 1) := by decide +kernel
theorem dL_refuses_360 : decode cL_refuses 360 = .ok (.invokestatic 184, 3) := by decide +kernel
theorem dL_refuses_363 : decode cL_refuses 363 = .ok (.ldc 15, 2) := by decide +kernel
theorem dL_refuses_365 : decode cL_refuses 365 = .ok (.if_icmp .ne 74, 3) := by decide +kernel
theorem dL_refuses_368 : decode cL_refuses 368 = .ok (.aload_n 0, 1) := by decide +kernel
theorem dL_refuses_369 : decode cL_refuses 369 = .ok (.bipush 13, 2) := by decide +kernel
theorem dL_refuses_371 : decode cL_refuses 371 = .ok (.iconst 5, 1) := by decide +kernel
theorem dL_refuses_372 : decode cL_refuses 372 = .ok (.iconst 0, 1) := by decide +kernel
theorem dL_refuses_373 : decode cL_refuses 373 = .ok (.iconst 0, 1) := by decide +kernel
theorem dL_refuses_374 : decode cL_refuses 374 = .ok (.invokestatic 184, 3) := by decide +kernel
theorem dL_refuses_377 : decode cL_refuses 377 = .ok (.ldc 15, 2) := by decide +kernel
theorem dL_refuses_379 : decode cL_refuses 379 = .ok (.if_icmp .ne 60, 3) := by decide +kernel
theorem dL_refuses_382 : decode cL_refuses 382 = .ok (.aload_n 0, 1) := by decide +kernel
theorem dL_refuses_383 : decode cL_refuses 383 = .ok (.bipush 14, 2) := by decide +kernel
theorem dL_refuses_385 : decode cL_refuses 385 = .ok (.iconst 0, 1) := by decide +kernel
theorem dL_refuses_386 : decode cL_refuses 386 = .ok (.iconst 0, 1) := by decide +kernel
theorem dL_refuses_387 : decode cL_refuses 387 = .ok (.iconst 0, 1) := by decide +kernel
theorem dL_refuses_388 : decode cL_refuses 388 = .ok (.invokestatic 184, 3) := by decide +kernel
theorem dL_refuses_391 : decode cL_refuses 391 = .ok (.ldc 29, 2) := by decide +kernel
theorem dL_refuses_393 : decode cL_refuses 393 = .ok (.if_icmp .ne 46, 3) := by decide +kernel
theorem dL_refuses_396 : decode cL_refuses 396 = .ok (.aload_n 0, 1) := by decide +kernel
theorem dL_refuses_397 : decode cL_refuses 397 = .ok (.bipush 14, 2) := by decide +kernel
theorem dL_refuses_399 : decode cL_refuses 399 = .ok (.bipush 41, 2) := by decide +kernel
theorem dL_refuses_401 : decode cL_refuses 401 = .ok (.iload_n 1, 1) := by decide +kernel
theorem dL_refuses_402 : decode cL_refuses 402 = .ok (.bipush 9, 2) := by decide +kernel
theorem dL_refuses_404 : decode cL_refuses 404 = .ok (.irem, 1) := by decide +kernel
theorem dL_refuses_405 : decode cL_refuses 405 = .ok (.iadd, 1) := by decide +kernel
theorem dL_refuses_406 : decode cL_refuses 406 = .ok (.iconst 0, 1) := by decide +kernel
theorem dL_refuses_407 : decode cL_refuses 407 = .ok (.iconst 0, 1) := by decide +kernel
theorem dL_refuses_408 : decode cL_refuses 408 = .ok (.invokestatic 184, 3) := by decide +kernel
theorem dL_refuses_411 : decode cL_refuses 411 = .ok (.ldc 29, 2) := by decide +kernel
theorem dL_refuses_413 : decode cL_refuses 413 = .ok (.if_icmp .ne 26, 3) := by decide +kernel
theorem dL_refuses_416 : decode cL_refuses 416 = .ok (.iload_n 3, 1) := by decide +kernel
theorem dL_refuses_417 : decode cL_refuses 417 = .ok (.ifCond .eq 18, 3) := by decide +kernel
theorem dL_refuses_420 : decode cL_refuses 420 = .ok (.aload_n 0, 1) := by decide +kernel
theorem dL_refuses_421 : decode cL_refuses 421 = .ok (.bipush 14, 2) := by decide +kernel
theorem dL_refuses_423 : decode cL_refuses 423 = .ok (.bipush 40, 2) := by decide +kernel
theorem dL_refuses_425 : decode cL_refuses 425 = .ok (.iconst 0, 1) := by decide +kernel
theorem dL_refuses_426 : decode cL_refuses 426 = .ok (.iconst 0, 1) := by decide +kernel
theorem dL_refuses_427 : decode cL_refuses 427 = .ok (.invokestatic 184, 3) := by decide +kernel
theorem dL_refuses_430 : decode cL_refuses 430 = .ok (.ldc 18, 2) := by decide +kernel
theorem dL_refuses_432 : decode cL_refuses 432 = .ok (.if_icmp .ne 7, 3) := by decide +kernel
theorem dL_refuses_435 : decode cL_refuses 435 = .ok (.iconst 1, 1) := by decide +kernel
theorem dL_refuses_436 : decode cL_refuses 436 = .ok (.goto 4, 3) := by decide +kernel
theorem dL_refuses_439 : decode cL_refuses 439 = .ok (.iconst 0, 1) := by decide +kernel
theorem dL_refuses_440 : decode cL_refuses 440 = .ok (.istore 4, 2) := by decide +kernel
theorem dL_refuses_442 : decode cL_refuses 442 = .ok (.iload 4, 2) := by decide +kernel
theorem dL_refuses_444 : decode cL_refuses 444 = .ok (.ifCond .eq 179, 3) := by decide +kernel
theorem dL_refuses_447 : decode cL_refuses 447 = .ok (.aload_n 0, 1) := by decide +kernel
theorem dL_refuses_448 : decode cL_refuses 448 = .ok (.bipush 15, 2) := by decide +kernel
theorem dL_refuses_450 : decode cL_refuses 450 = .ok (.iconst 0, 1) := by decide +kernel
theorem dL_refuses_451 : decode cL_refuses 451 = .ok (.sipush 1000, 3) := by decide +kernel
theorem dL_refuses_454 : decode cL_refuses 454 = .ok (.iload_n 1, 1) := by decide +kernel
theorem dL_refuses_455 : decode cL_refuses 455 = .ok (.bipush 9, 2) := by decide +kernel
theorem dL_refuses_457 : decode cL_refuses 457 = .ok (.irem, 1) := by decide +kernel
theorem dL_refuses_458 : decode cL_refuses 458 = .ok (.iadd, 1) := by decide +kernel
theorem dL_refuses_459 : decode cL_refuses 459 = .ok (.iconst 0, 1) := by decide +kernel
theorem dL_refuses_460 : decode cL_refuses 460 = .ok (.invokestatic 184, 3) := by decide +kernel
theorem dL_refuses_463 : decode cL_refuses 463 = .ok (.ldc 29, 2) := by decide +kernel
theorem dL_refuses_465 : decode cL_refuses 465 = .ok (.if_icmp .ne 158, 3) := by decide +kernel
theorem dL_refuses_468 : decode cL_refuses 468 = .ok (.aload_n 0, 1) := by decide +kernel
theorem dL_refuses_469 : decode cL_refuses 469 = .ok (.bipush 15, 2) := by decide +kernel
theorem dL_refuses_471 : decode cL_refuses 471 = .ok (.iconst 0, 1) := by decide +kernel
theorem dL_refuses_472 : decode cL_refuses 472 = .ok (.iconst 0, 1) := by decide +kernel
theorem dL_refuses_473 : decode cL_refuses 473 = .ok (.iconst 0, 1) := by decide +kernel
theorem dL_refuses_474 : decode cL_refuses 474 = .ok (.invokestatic 184, 3) := by decide +kernel
theorem dL_refuses_477 : decode cL_refuses 477 = .ok (.ldc 29, 2) := by decide +kernel
theorem dL_refuses_479 : decode cL_refuses 479 = .ok (.if_icmp .ne 144, 3) := by decide +kernel
theorem dL_refuses_482 : decode cL_refuses 482 = .ok (.aload_n 0, 1) := by decide +kernel
theorem dL_refuses_483 : decode cL_refuses 483 = .ok (.bipush 15, 2) := by decide +kernel
theorem dL_refuses_485 : decode cL_refuses 485 = .ok (.iconst 1, 1) := by decide +kernel
theorem dL_refuses_486 : decode cL_refuses 486 = .ok (.sipush 10000, 3) := by decide +kernel
theorem dL_refuses_489 : decode cL_refuses 489 = .ok (.iload_n 1, 1) := by decide +kernel
theorem dL_refuses_490 : decode cL_refuses 490 = .ok (.bipush 9, 2) := by decide +kernel
theorem dL_refuses_492 : decode cL_refuses 492 = .ok (.irem, 1) := by decide +kernel
theorem dL_refuses_493 : decode cL_refuses 493 = .ok (.iadd, 1) := by decide +kernel
theorem dL_refuses_494 : decode cL_refuses 494 = .ok (.iconst 0, 1) := by decide +kernel
theorem dL_refuses_495 : decode cL_refuses 495 = .ok (.invokestatic 184, 3) := by decide +kernel
theorem dL_refuses_498 : decode cL_refuses 498 = .ok (.ldc 29, 2) := by decide +kernel
theorem dL_refuses_500 : decode cL_refuses 500 = .ok (.if_icmp .ne 123, 3) := by decide +kernel
theorem dL_refuses_503 : decode cL_refuses 503 = .ok (.aload_n 0, 1) := by decide +kernel
theorem dL_refuses_504 : decode cL_refuses 504 = .ok (.bipush 17, 2) := by decide +kernel
theorem dL_refuses_506 : decode cL_refuses 506 = .ok (.iload_n 2, 1) := by decide +kernel
theorem dL_refuses_507 : decode cL_refuses 507 = .ok (.iconst 0, 1) := by decide +kernel
theorem dL_refuses_508 : decode cL_refuses 508 = .ok (.iconst 0, 1) := by decide +kernel
theorem dL_refuses_509 : decode cL_refuses 509 = .ok (.invokestatic 184, 3) := by decide +kernel
theorem dL_refuses_512 : decode cL_refuses 512 = .ok (.ldc 15, 2) := by decide +kernel
theorem dL_refuses_514 : decode cL_refuses 514 = .ok (.if_icmp .ne 109, 3) := by decide +kernel
theorem dL_refuses_517 : decode cL_refuses 517 = .ok (.aload_n 0, 1) := by decide +kernel
theorem dL_refuses_518 : decode cL_refuses 518 = .ok (.bipush 18, 2) := by decide +kernel
theorem dL_refuses_520 : decode cL_refuses 520 = .ok (.iconst 5, 1) := by decide +kernel
theorem dL_refuses_521 : decode cL_refuses 521 = .ok (.iload_n 1, 1) := by decide +kernel
theorem dL_refuses_522 : decode cL_refuses 522 = .ok (.bipush 9, 2) := by decide +kernel
theorem dL_refuses_524 : decode cL_refuses 524 = .ok (.irem, 1) := by decide +kernel
theorem dL_refuses_525 : decode cL_refuses 525 = .ok (.iadd, 1) := by decide +kernel
theorem dL_refuses_526 : decode cL_refuses 526 = .ok (.iconst 0, 1) := by decide +kernel
theorem dL_refuses_527 : decode cL_refuses 527 = .ok (.iconst 0, 1) := by decide +kernel
theorem dL_refuses_528 : decode cL_refuses 528 = .ok (.invokestatic 184, 3) := by decide +kernel
theorem dL_refuses_531 : decode cL_refuses 531 = .ok (.ldc 15, 2) := by decide +kernel
theorem dL_refuses_533 : decode cL_refuses 533 = .ok (.if_icmp .ne 90, 3) := by decide +kernel
theorem dL_refuses_536 : decode cL_refuses 536 = .ok (.aload_n 0, 1) := by decide +kernel
theorem dL_refuses_537 : decode cL_refuses 537 = .ok (.bipush 19, 2) := by decide +kernel
theorem dL_refuses_539 : decode cL_refuses 539 = .ok (.iconst (-1), 1) := by decide +kernel
theorem dL_refuses_540 : decode cL_refuses 540 = .ok (.iconst 0, 1) := by decide +kernel
theorem dL_refuses_541 : decode cL_refuses 541 = .ok (.iconst 0, 1) := by decide +kernel
theorem dL_refuses_542 : decode cL_refuses 542 = .ok (.invokestatic 184, 3) := by decide +kernel
theorem dL_refuses_545 : decode cL_refuses 545 = .ok (.ldc 15, 2) := by decide +kernel
theorem dL_refuses_547 : decode cL_refuses 547 = .ok (.if_icmp .ne 76, 3) := by decide +kernel
theorem dL_refuses_550 : decode cL_refuses 550 = .ok (.aload_n 0, 1) := by decide +kernel
theorem dL_refuses_551 : decode cL_refuses 551 = .ok (.bipush 20, 2) := by decide +kernel
theorem dL_refuses_553 : decode cL_refuses 553 = .ok (.sipush 1000, 3) := by decide +kernel
theorem dL_refuses_556 : decode cL_refuses 556 = .ok (.iload_n 1, 1) := by decide +kernel
theorem dL_refuses_557 : decode cL_refuses 557 = .ok (.bipush 9, 2) := by decide +kernel
theorem dL_refuses_559 : decode cL_refuses 559 = .ok (.irem, 1) := by decide +kernel
theorem dL_refuses_560 : decode cL_refuses 560 = .ok (.iadd, 1) := by decide +kernel
theorem dL_refuses_561 : decode cL_refuses 561 = .ok (.iconst 0, 1) := by decide +kernel
theorem dL_refuses_562 : decode cL_refuses 562 = .ok (.iconst 0, 1) := by decide +kernel
theorem dL_refuses_563 : decode cL_refuses 563 = .ok (.invokestatic 184, 3) := by decide +kernel
theorem dL_refuses_566 : decode cL_refuses 566 = .ok (.ldc 29, 2) := by decide +kernel
theorem dL_refuses_568 : decode cL_refuses 568 = .ok (.if_icmp .ne 55, 3) := by decide +kernel
theorem dL_refuses_571 : decode cL_refuses 571 = .ok (.aload_n 0, 1) := by decide +kernel
theorem dL_refuses_572 : decode cL_refuses 572 = .ok (.bipush 21, 2) := by decide +kernel
theorem dL_refuses_574 : decode cL_refuses 574 = .ok (.iconst 2, 1) := by decide +kernel
theorem dL_refuses_575 : decode cL_refuses 575 = .ok (.iconst 0, 1) := by decide +kernel
theorem dL_refuses_576 : decode cL_refuses 576 = .ok (.iconst 0, 1) := by decide +kernel
theorem dL_refuses_577 : decode cL_refuses 577 = .ok (.invokestatic 184, 3) := by decide +kernel
theorem dL_refuses_580 : decode cL_refuses 580 = .ok (.ldc 15, 2) := by decide +kernel
theorem dL_refuses_582 : decode cL_refuses 582 = .ok (.if_icmp .ne 41, 3) := by decide +kernel
theorem dL_refuses_585 : decode cL_refuses 585 = .ok (.aload_n 0, 1) := by decide +kernel
theorem dL_refuses_586 : decode cL_refuses 586 = .ok (.bipush 22, 2) := by decide +kernel
theorem dL_refuses_588 : decode cL_refuses 588 = .ok (.iconst (-1), 1) := by decide +kernel
theorem dL_refuses_589 : decode cL_refuses 589 = .ok (.iconst 0, 1) := by decide +kernel
theorem dL_refuses_590 : decode cL_refuses 590 = .ok (.iconst 0, 1) := by decide +kernel
theorem dL_refuses_591 : decode cL_refuses 591 = .ok (.invokestatic 184, 3) := by decide +kernel
theorem dL_refuses_594 : decode cL_refuses 594 = .ok (.ldc 15, 2) := by decide +kernel
theorem dL_refuses_596 : decode cL_refuses 596 = .ok (.if_icmp .ne 27, 3) := by decide +kernel
theorem dL_refuses_599 : decode cL_refuses 599 = .ok (.aload_n 0, 1) := by decide +kernel
theorem dL_refuses_600 : decode cL_refuses 600 = .ok (.iconst 0, 1) := by decide +kernel
theorem dL_refuses_601 : decode cL_refuses 601 = .ok (.sipush 256, 3) := by decide +kernel
theorem dL_refuses_604 : decode cL_refuses 604 = .ok (.iload_n 1, 1) := by decide +kernel
theorem dL_refuses_605 : decode cL_refuses 605 = .ok (.bipush 9, 2) := by decide +kernel
theorem dL_refuses_607 : decode cL_refuses 607 = .ok (.irem, 1) := by decide +kernel
theorem dL_refuses_608 : decode cL_refuses 608 = .ok (.iadd, 1) := by decide +kernel
theorem dL_refuses_609 : decode cL_refuses 609 = .ok (.iconst 0, 1) := by decide +kernel
theorem dL_refuses_610 : decode cL_refuses 610 = .ok (.iconst 0, 1) := by decide +kernel
theorem dL_refuses_611 : decode cL_refuses 611 = .ok (.invokestatic 184, 3) := by decide +kernel
theorem dL_refuses_614 : decode cL_refuses 614 = .ok (.ldc 29, 2) := by decide +kernel
theorem dL_refuses_616 : decode cL_refuses 616 = .ok (.if_icmp .ne 7, 3) := by decide +kernel
theorem dL_refuses_619 : decode cL_refuses 619 = .ok (.iconst 1, 1) := by decide +kernel
theorem dL_refuses_620 : decode cL_refuses 620 = .ok (.goto 4, 3) := by decide +kernel
theorem dL_refuses_623 : decode cL_refuses 623 = .ok (.iconst 0, 1) := by decide +kernel
theorem dL_refuses_624 : decode cL_refuses 624 = .ok (.istore 4, 2) := by decide +kernel
theorem dL_refuses_626 : decode cL_refuses 626 = .ok (.iload_n 2, 1) := by decide +kernel
theorem dL_refuses_627 : decode cL_refuses 627 = .ok (.ifCond .le 297, 3) := by decide +kernel
theorem dL_refuses_630 : decode cL_refuses 630 = .ok (.iload_n 1, 1) := by decide +kernel
theorem dL_refuses_631 : decode cL_refuses 631 = .ok (.iload_n 2, 1) := by decide +kernel
theorem dL_refuses_632 : decode cL_refuses 632 = .ok (.irem, 1) := by decide +kernel
theorem dL_refuses_633 : decode cL_refuses 633 = .ok (.istore 5, 2) := by decide +kernel
theorem dL_refuses_635 : decode cL_refuses 635 = .ok (.aload_n 0, 1) := by decide +kernel
theorem dL_refuses_636 : decode cL_refuses 636 = .ok (.iconst 3, 1) := by decide +kernel
