theorem dX5_simulate_55 : decode cX5_simulate 55 = .ok (.lstore 4, 2) := by decide +kernel
theorem dX5_simulate_57 : decode cX5_simulate 57 = .ok (.aload_n 0, 1) := by decide +kernel
theorem dX5_simulate_58 : decode cX5_simulate 58 = .ok (.getfield 23, 3) := by decide +kernel
theorem dX5_simulate_61 : decode cX5_simulate 61 = .ok (.lload 4, 2) := by decide +kernel
theorem dX5_simulate_63 : decode cX5_simulate 63 = .ok (.bipush 33, 2) := by decide +kernel
theorem dX5_simulate_65 : decode cX5_simulate 65 = .ok (.lushr, 1) := by decide +kernel
theorem dX5_simulate_66 : decode cX5_simulate 66 = .ok (.l2i, 1) := by decide +kernel
theorem dX5_simulate_67 : decode cX5_simulate 67 = .ok (.invokestatic 327, 3) := by decide +kernel
theorem dX5_simulate_70 : decode cX5_simulate 70 = .ok (.pop, 1) := by decide +kernel
theorem dX5_simulate_71 : decode cX5_simulate 71 = .ok (.iinc 6 1, 3) := by decide +kernel
theorem dX5_simulate_74 : decode cX5_simulate 74 = .ok (.goto (-35), 3) := by decide +kernel
theorem dX5_simulate_77 : decode cX5_simulate 77 = .ok (.aload_n 0, 1) := by decide +kernel
theorem dX5_simulate_78 : decode cX5_simulate 78 = .ok (.getfield 23, 3) := by decide +kernel
theorem dX5_simulate_81 : decode cX5_simulate 81 = .ok (.getfield 93, 3) := by decide +kernel
theorem dX5_simulate_84 : decode cX5_simulate 84 = .ok (.invokevirtual 103, 3) := by decide +kernel
theorem dX5_simulate_87 : decode cX5_simulate 87 = .ok (.aload_n 0, 1) := by decide +kernel
theorem dX5_simulate_88 : decode cX5_simulate 88 = .ok (.getfield 19, 3) := by decide +kernel
theorem dX5_simulate_91 : decode cX5_simulate 91 = .ok (.getfield 93, 3) := by decide +kernel
theorem dX5_simulate_94 : decode cX5_simulate 94 = .ok (.invokevirtual 103, 3) := by decide +kernel
theorem dX5_simulate_97 : decode cX5_simulate 97 = .ok (.isub, 1) := by decide +kernel
theorem dX5_simulate_98 : decode cX5_simulate 98 = .ok (.istore 6, 2) := by decide +kernel
theorem dX5_simulate_100 : decode cX5_simulate 100 = .ok (.aload_n 0, 1) := by decide +kernel
theorem dX5_simulate_101 : decode cX5_simulate 101 = .ok (.getfield 23, 3) := by decide +kernel
theorem dX5_simulate_104 : decode cX5_simulate 104 = .ok (.getfield 93, 3) := by decide +kernel
theorem dX5_simulate_107 : decode cX5_simulate 107 = .ok (.iconst 4, 1) := by decide +kernel
theorem dX5_simulate_108 : decode cX5_simulate 108 = .ok (.invokevirtual 97, 3) := by decide +kernel
theorem dX5_simulate_111 : decode cX5_simulate 111 = .ok (.aload_n 0, 1) := by decide +kernel
theorem dX5_simulate_112 : decode cX5_simulate 112 = .ok (.getfield 19, 3) := by decide +kernel
theorem dX5_simulate_115 : decode cX5_simulate 115 = .ok (.getfield 93, 3) := by decide +kernel
theorem dX5_simulate_118 : decode cX5_simulate 118 = .ok (.iconst 4, 1) := by decide +kernel
theorem dX5_simulate_119 : decode cX5_simulate 119 = .ok (.invokevirtual 97, 3) := by decide +kernel
theorem dX5_simulate_122 : decode cX5_simulate 122 = .ok (.isub, 1) := by decide +kernel
theorem dX5_simulate_123 : decode cX5_simulate 123 = .ok (.istore 7, 2) := by decide +kernel
theorem dX5_simulate_125 : decode cX5_simulate 125 = .ok (.sipush 1000, 3) := by decide +kernel
theorem dX5_simulate_128 : decode cX5_simulate 128 = .ok (.iload 6, 2) := by decide +kernel
theorem dX5_simulate_130 : decode cX5_simulate 130 = .ok (.imul, 1) := by decide +kernel
theorem dX5_simulate_131 : decode cX5_simulate 131 = .ok (.iload 7, 2) := by decide +kernel
theorem dX5_simulate_133 : decode cX5_simulate 133 = .ok (.iadd, 1) := by decide +kernel
theorem dX5_simulate_134 : decode cX5_simulate 134 = .ok (.ireturn, 1) := by decide +kernel
set_option maxRecDepth 20000 in
theorem ggX5_save_X2_copyFrom : GoodIn wsX5_save wsX2_copyFrom := goodIn_r _ [11, 12, 13, 14, 15, 16, 17, 18, 19, 20, 21, 22, 23, 24, 25, 26, 27, 28, 29, 30, 31, 10, 32, 33, 34, 35, 36, 37, 38, 39, 40, 41, 42, 49, 50, 51, 52, 53, 54, 55, 56, 57, 58, 59, 60, 61, 62, 63, 64, 65] (by decide +kernel) (by decide +kernel)
set_option maxRecDepth 20000 in
theorem gX5_save_X2_copyFrom : GoodIn wsX5_save (wsV RX5 283 RX2 yX2_copyFrom wsX2_copyFrom) := goodIn_app (goodIn_of _ (by decide +kernel)) ggX5_save_X2_copyFrom
theorem dX5_save_0 : decode cX5_save 0 = .ok (.iload_n 1, 1) := by decide +kernel
theorem dX5_save_1 : decode cX5_save 1 = .ok (.ifCond .lt 8, 3) := by decide +kernel
theorem dX5_save_4 : decode cX5_save 4 = .ok (.iload_n 1, 1) := by decide +kernel
theorem dX5_save_5 : decode cX5_save 5 = .ok (.iconst 2, 1) := by decide +kernel
theorem dX5_save_6 : decode cX5_save 6 = .ok (.if_icmp .lt 14, 3) := by decide +kernel
theorem dX5_save_9 : decode cX5_save 9 = .ok (.new 330, 3) := by decide +kernel
theorem dX5_save_12 : decode cX5_save 12 = .ok (.dup, 1) := by decide +kernel
theorem dX5_save_13 : decode cX5_save 13 = .ok (.ldc_w 332, 3) := by decide +kernel
theorem dX5_save_16 : decode cX5_save 16 = .ok (.invokespecial 334, 3) := by decide +kernel
theorem dX5_save_19 : decode cX5_save 19 = .ok (.athrow, 1) := by decide +kernel
theorem dX5_save_20 : decode cX5_save 20 = .ok (.aload_n 0, 1) := by decide +kernel
theorem dX5_save_21 : decode cX5_save 21 = .ok (.getfield 33, 3) := by decide +kernel
theorem dX5_save_24 : decode cX5_save 24 = .ok (.iload_n 1, 1) := by decide +kernel
theorem dX5_save_25 : decode cX5_save 25 = .ok (.aaload, 1) := by decide +kernel
theorem dX5_save_26 : decode cX5_save 26 = .ok (.aload_n 0, 1) := by decide +kernel
theorem dX5_save_27 : decode cX5_save 27 = .ok (.getfield 19, 3) := by decide +kernel
theorem dX5_save_30 : decode cX5_save 30 = .ok (.invokevirtual 283, 3) := by decide +kernel
theorem dX5_save_33 : decode cX5_save 33 = .ok (.aload_n 0, 1) := by decide +kernel
theorem dX5_save_34 : decode cX5_save 34 = .ok (.getfield 37, 3) := by decide +kernel
theorem dX5_save_37 : decode cX5_save 37 = .ok (.iload_n 1, 1) := by decide +kernel
theorem dX5_save_38 : decode cX5_save 38 = .ok (.iconst 1, 1) := by decide +kernel
theorem dX5_save_39 : decode cX5_save 39 = .ok (.bastore, 1) := by decide +kernel
theorem dX5_save_40 : decode cX5_save 40 = .ok (.aload_n 0, 1) := by decide +kernel
theorem dX5_save_41 : decode cX5_save 41 = .ok (.getfield 19, 3) := by decide +kernel
theorem dX5_save_44 : decode cX5_save 44 = .ok (.getfield 87, 3) := by decide +kernel
theorem dX5_save_47 : decode cX5_save 47 = .ok (.ireturn, 1) := by decide +kernel
set_option maxRecDepth 20000 in
theorem ggX5_restore_X2_copyFrom : GoodIn wsX5_restore wsX2_copyFrom := goodIn_r _ [14, 15, 16, 17, 18, 19, 20, 21, 22, 23, 24, 25, 26, 27, 28, 29, 30, 31, 32, 33, 34, 13, 35, 36, 37, 38, 39, 40, 41, 42, 43, 44, 45, 58, 59, 60, 61, 62, 63, 64, 65, 66, 67, 68, 69, 70, 71, 72, 73, 74] (by decide +kernel) (by decide +kernel)
set_option maxRecDepth 20000 in
theorem gX5_restore_X2_copyFrom : GoodIn wsX5_restore (wsV RX5 283 RX2 yX2_copyFrom wsX2_copyFrom) := goodIn_app (goodIn_of _ (by decide +kernel)) ggX5_restore_X2_copyFrom
set_option maxRecDepth 20000 in
theorem ggX5_restore_X1_clear : GoodIn wsX5_restore wsX1_clear := goodIn_r _ [50, 51, 75, 76, 77] (by decide +kernel) (by decide +kernel)
set_option maxRecDepth 20000 in
theorem gX5_restore_X1_clear : GoodIn wsX5_restore (wsV RX5 70 RX1 yX1_clear wsX1_clear) := goodIn_app (goodIn_of _ (by decide +kernel)) ggX5_restore_X1_clear
theorem dX5_restore_0 : decode cX5_restore 0 = .ok (.iload_n 1, 1) := by decide +kernel
theorem dX5_restore_1 : decode cX5_restore 1 = .ok (.ifCond .lt 8, 3) := by decide +kernel
theorem dX5_restore_4 : decode cX5_restore 4 = .ok (.iload_n 1, 1) := by decide +kernel
theorem dX5_restore_5 : decode cX5_restore 5 = .ok (.iconst 2, 1) := by decide +kernel
theorem dX5_restore_6 : decode cX5_restore 6 = .ok (.if_icmp .lt 14, 3) := by decide +kernel
theorem dX5_restore_9 : decode cX5_restore 9 = .ok (.new 330, 3) := by decide +kernel
theorem dX5_restore_12 : decode cX5_restore 12 = .ok (.dup, 1) := by decide +kernel
theorem dX5_restore_13 : decode cX5_restore 13 = .ok (.ldc_w 332, 3) := by decide +kernel
theorem dX5_restore_16 : decode cX5_restore 16 = .ok (.invokespecial 334, 3) := by decide +kernel
theorem dX5_restore_19 : decode cX5_restore 19 = .ok (.athrow, 1) := by decide +kernel
theorem dX5_restore_20 : decode cX5_restore 20 = .ok (.aload_n 0, 1) := by decide +kernel
theorem dX5_restore_21 : decode cX5_restore 21 = .ok (.getfield 37, 3) := by decide +kernel
theorem dX5_restore_24 : decode cX5_restore 24 = .ok (.iload_n 1, 1) := by decide +kernel
theorem dX5_restore_25 : decode cX5_restore 25 = .ok (.baload, 1) := by decide +kernel
theorem dX5_restore_26 : decode cX5_restore 26 = .ok (.ifCond .ne 14, 3) := by decide +kernel
theorem dX5_restore_29 : decode cX5_restore 29 = .ok (.new 52, 3) := by decide +kernel
theorem dX5_restore_32 : decode cX5_restore 32 = .ok (.dup, 1) := by decide +kernel
theorem dX5_restore_33 : decode cX5_restore 33 = .ok (.ldc_w 335, 3) := by decide +kernel
theorem dX5_restore_36 : decode cX5_restore 36 = .ok (.invokespecial 56, 3) := by decide +kernel
theorem dX5_restore_39 : decode cX5_restore 39 = .ok (.athrow, 1) := by decide +kernel
theorem dX5_restore_40 : decode cX5_restore 40 = .ok (.aload_n 0, 1) := by decide +kernel
theorem dX5_restore_41 : decode cX5_restore 41 = .ok (.getfield 19, 3) := by decide +kernel
theorem dX5_restore_44 : decode cX5_restore 44 = .ok (.aload_n 0, 1) := by decide +kernel
theorem dX5_restore_45 : decode cX5_restore 45 = .ok (.getfield 33, 3) := by decide +kernel
theorem dX5_restore_48 : decode cX5_restore 48 = .ok (.iload_n 1, 1) := by decide +kernel
theorem dX5_restore_49 : decode cX5_restore 49 = .ok (.aaload, 1) := by decide +kernel
theorem dX5_restore_50 : decode cX5_restore 50 = .ok (.invokevirtual 283, 3) := by decide +kernel
theorem dX5_restore_53 : decode cX5_restore 53 = .ok (.aload_n 0, 1) := by decide +kernel
theorem dX5_restore_54 : decode cX5_restore 54 = .ok (.getfield 29, 3) := by decide +kernel
theorem dX5_restore_57 : decode cX5_restore 57 = .ok (.invokevirtual 70, 3) := by decide +kernel
theorem dX5_restore_60 : decode cX5_restore 60 = .ok (.aload_n 0, 1) := by decide +kernel
theorem dX5_restore_61 : decode cX5_restore 61 = .ok (.getfield 19, 3) := by decide +kernel
theorem dX5_restore_64 : decode cX5_restore 64 = .ok (.getfield 87, 3) := by decide +kernel
theorem dX5_restore_67 : decode cX5_restore 67 = .ok (.ireturn, 1) := by decide +kernel
set_option maxRecDepth 20000 in
theorem ggX5_beginAction_X5_requireFine : GoodIn wsX5_beginAction wsX5_requireFine := goodIn_ca (goodIn_ca (goodIn_ca (goodIn_r _ [6, 7, 8, 9, 10, 11, 12] (by decide +kernel) (by decide +kernel)) (goodIn_sub (fun _ h => List.mem_cons_of_mem _ (List.mem_append_left _ (List.mem_append_left _ (List.mem_append_right _ h)))) (by decide +kernel))) (goodIn_sub (fun _ h => List.mem_cons_of_mem _ (List.mem_append_left _ (List.mem_append_right _ h))) (by decide +kernel))) (goodIn_sub (fun _ h => List.mem_cons_of_mem _ (List.mem_append_right _ h)) (by decide +kernel))
set_option maxRecDepth 20000 in
theorem gX5_beginAction_X5_requireFine : GoodIn wsX5_beginAction (va_wsS RX5 296 yX5_requireFine wsX5_requireFine) := goodIn_app (goodIn_of _ (by decide +kernel)) ggX5_beginAction_X5_requireFine
set_option maxRecDepth 20000 in
theorem ggX5_beginAction_X1_remember : GoodIn wsX5_beginAction wsX1_remember := goodIn_r _ [17, 18, 19, 20, 21, 22, 23, 24, 25, 26, 27, 28, 29, 30, 31, 32, 33, 34, 35, 36, 37, 38, 39, 40, 41, 42, 43, 44, 45, 46, 47, 48, 49, 50, 51, 52, 53, 54, 55, 56, 63, 64, 65, 66, 67, 68, 69, 70, 71, 72, 73, 74, 75, 76, 77, 78, 79, 80, 81, 82] (by decide +kernel) (by decide +kernel)
set_option maxRecDepth 20000 in
theorem gX5_beginAction_X1_remember : GoodIn wsX5_beginAction (wsV RX5 337 RX1 yX1_remember wsX1_remember) := goodIn_app (goodIn_of _ (by decide +kernel)) ggX5_beginAction_X1_remember
theorem dX5_beginAction_0 : decode cX5_beginAction 0 = .ok (.iload_n 1, 1) := by decide +kernel
theorem dX5_beginAction_1 : decode cX5_beginAction 1 = .ok (.invokestatic 296, 3) := by decide +kernel
theorem dX5_beginAction_4 : decode cX5_beginAction 4 = .ok (.aload_n 0, 1) := by decide +kernel
theorem dX5_beginAction_5 : decode cX5_beginAction 5 = .ok (.getfield 29, 3) := by decide +kernel
theorem dX5_beginAction_8 : decode cX5_beginAction 8 = .ok (.aload_n 0, 1) := by decide +kernel
theorem dX5_beginAction_9 : decode cX5_beginAction 9 = .ok (.getfield 19, 3) := by decide +kernel
theorem dX5_beginAction_12 : decode cX5_beginAction 12 = .ok (.invokevirtual 337, 3) := by decide +kernel
theorem dX5_beginAction_15 : decode cX5_beginAction 15 = .ok (.return_, 1) := by decide +kernel
set_option maxRecDepth 20000 in
theorem ggX5_requireChild_X2_hasChild : GoodIn wsX5_requireChild wsX2_hasChild := goodIn_r _ [8, 9, 16, 17, 18, 19, 20, 21, 22, 23, 24, 25, 26, 27, 28, 29] (by decide +kernel) (by decide +kernel)
set_option maxRecDepth 20000 in
theorem gX5_requireChild_X2_hasChild : GoodIn wsX5_requireChild (wsV RX5 340 RX2 yX2_hasChild wsX2_hasChild) := goodIn_app (goodIn_of _ (by decide +kernel)) ggX5_requireChild_X2_hasChild
theorem dX5_requireChild_0 : decode cX5_requireChild 0 = .ok (.aload_n 0, 1) := by decide +kernel
theorem dX5_requireChild_1 : decode cX5_requireChild 1 = .ok (.getfield 19, 3) := by decide +kernel
theorem dX5_requireChild_4 : decode cX5_requireChild 4 = .ok (.iload_n 1, 1) := by decide +kernel
theorem dX5_requireChild_5 : decode cX5_requireChild 5 = .ok (.invokevirtual 340, 3) := by decide +kernel
theorem dX5_requireChild_8 : decode cX5_requireChild 8 = .ok (.ifCond .ne 14, 3) := by decide +kernel
theorem dX5_requireChild_11 : decode cX5_requireChild 11 = .ok (.new 330, 3) := by decide +kernel
theorem dX5_requireChild_14 : decode cX5_requireChild 14 = .ok (.dup, 1) := by decide +kernel
theorem dX5_requireChild_15 : decode cX5_requireChild 15 = .ok (.ldc_w 344, 3) := by decide +kernel
theorem dX5_requireChild_18 : decode cX5_requireChild 18 = .ok (.invokespecial 334, 3) := by decide +kernel
theorem dX5_requireChild_21 : decode cX5_requireChild 21 = .ok (.athrow, 1) := by decide +kernel
theorem dX5_requireChild_22 : decode cX5_requireChild 22 = .ok (.return_, 1) := by decide +kernel
set_option maxRecDepth 20000 in
theorem ggX5_requireFamily_X5_isFamily : GoodIn wsX5_requireFamily wsX5_isFamily := goodIn_r _ [6] (by decide +kernel) (by decide +kernel)
set_option maxRecDepth 20000 in
theorem gX5_requireFamily_X5_isFamily : GoodIn wsX5_requireFamily (va_wsS RX5 346 yX5_isFamily wsX5_isFamily) := goodIn_app (goodIn_of _ (by decide +kernel)) ggX5_requireFamily_X5_isFamily
theorem dX5_requireFamily_0 : decode cX5_requireFamily 0 = .ok (.iload_n 0, 1) := by decide +kernel
theorem dX5_requireFamily_1 : decode cX5_requireFamily 1 = .ok (.invokestatic 346, 3) := by decide +kernel
theorem dX5_requireFamily_4 : decode cX5_requireFamily 4 = .ok (.ifCond .ne 14, 3) := by decide +kernel
theorem dX5_requireFamily_7 : decode cX5_requireFamily 7 = .ok (.new 330, 3) := by decide +kernel
theorem dX5_requireFamily_10 : decode cX5_requireFamily 10 = .ok (.dup, 1) := by decide +kernel
theorem dX5_requireFamily_11 : decode cX5_requireFamily 11 = .ok (.ldc_w 349, 3) := by decide +kernel
theorem dX5_requireFamily_14 : decode cX5_requireFamily 14 = .ok (.invokespecial 334, 3) := by decide +kernel
theorem dX5_requireFamily_17 : decode cX5_requireFamily 17 = .ok (.athrow, 1) := by decide +kernel
theorem dX5_requireFamily_18 : decode cX5_requireFamily 18 = .ok (.return_, 1) := by decide +kernel
set_option maxRecDepth 20000 in
theorem ggX5_requireDay_X5_isDay : GoodIn wsX5_requireDay wsX5_isDay := goodIn_r _ [6] (by decide +kernel) (by decide +kernel)
set_option maxRecDepth 20000 in
theorem gX5_requireDay_X5_isDay : GoodIn wsX5_requireDay (va_wsS RX5 351 yX5_isDay wsX5_isDay) := goodIn_app (goodIn_of _ (by decide +kernel)) ggX5_requireDay_X5_isDay
theorem dX5_requireDay_0 : decode cX5_requireDay 0 = .ok (.iload_n 0, 1) := by decide +kernel
theorem dX5_requireDay_1 : decode cX5_requireDay 1 = .ok (.invokestatic 351, 3) := by decide +kernel
theorem dX5_requireDay_4 : decode cX5_requireDay 4 = .ok (.ifCond .ne 14, 3) := by decide +kernel
theorem dX5_requireDay_7 : decode cX5_requireDay 7 = .ok (.new 330, 3) := by decide +kernel
theorem dX5_requireDay_10 : decode cX5_requireDay 10 = .ok (.dup, 1) := by decide +kernel
theorem dX5_requireDay_11 : decode cX5_requireDay 11 = .ok (.ldc_w 354, 3) := by decide +kernel
theorem dX5_requireDay_14 : decode cX5_requireDay 14 = .ok (.invokespecial 334, 3) := by decide +kernel
theorem dX5_requireDay_17 : decode cX5_requireDay 17 = .ok (.athrow, 1) := by decide +kernel
theorem dX5_requireDay_18 : decode cX5_requireDay 18 = .ok (.return_, 1) := by decide +kernel
theorem dX5_requireFine_0 : decode cX5_requireFine 0 = .ok (.iload_n 0, 1) := by decide +kernel
theorem dX5_requireFine_1 : decode cX5_requireFine 1 = .ok (.tableswitch 60 1 3 #[27, 38, 49], 27) := by decide +kernel
theorem dX5_requireFine_28 : decode cX5_requireFine 28 = .ok (.new 330, 3) := by decide +kernel
theorem dX5_requireFine_31 : decode cX5_requireFine 31 = .ok (.dup, 1) := by decide +kernel
theorem dX5_requireFine_32 : decode cX5_requireFine 32 = .ok (.ldc_w 356, 3) := by decide +kernel
theorem dX5_requireFine_35 : decode cX5_requireFine 35 = .ok (.invokespecial 334, 3) := by decide +kernel
theorem dX5_requireFine_38 : decode cX5_requireFine 38 = .ok (.athrow, 1) := by decide +kernel
theorem dX5_requireFine_39 : decode cX5_requireFine 39 = .ok (.new 41, 3) := by decide +kernel
theorem dX5_requireFine_42 : decode cX5_requireFine 42 = .ok (.dup, 1) := by decide +kernel
theorem dX5_requireFine_43 : decode cX5_requireFine 43 = .ok (.ldc_w 358, 3) := by decide +kernel
theorem dX5_requireFine_46 : decode cX5_requireFine 46 = .ok (.invokespecial 45, 3) := by decide +kernel
theorem dX5_requireFine_49 : decode cX5_requireFine 49 = .ok (.athrow, 1) := by decide +kernel
theorem dX5_requireFine_50 : decode cX5_requireFine 50 = .ok (.new 52, 3) := by decide +kernel
theorem dX5_requireFine_53 : decode cX5_requireFine 53 = .ok (.dup, 1) := by decide +kernel
theorem dX5_requireFine_54 : decode cX5_requireFine 54 = .ok (.ldc_w 360, 3) := by decide +kernel
theorem dX5_requireFine_57 : decode cX5_requireFine 57 = .ok (.invokespecial 56, 3) := by decide +kernel
theorem dX5_requireFine_60 : decode cX5_requireFine 60 = .ok (.athrow, 1) := by decide +kernel
theorem dX5_requireFine_61 : decode cX5_requireFine 61 = .ok (.return_, 1) := by decide +kernel
theorem dX5_faultOfSet_0 : decode cX5_faultOfSet 0 = .ok (.iload_n 0, 1) := by decide +kernel
theorem dX5_faultOfSet_1 : decode cX5_faultOfSet 1 = .ok (.ifCond .ne 15, 3) := by decide +kernel
theorem dX5_faultOfSet_4 : decode cX5_faultOfSet 4 = .ok (.iload_n 1, 1) := by decide +kernel
theorem dX5_faultOfSet_5 : decode cX5_faultOfSet 5 = .ok (.iconst 1, 1) := by decide +kernel
theorem dX5_faultOfSet_6 : decode cX5_faultOfSet 6 = .ok (.if_icmp .lt 10, 3) := by decide +kernel
theorem dX5_faultOfSet_9 : decode cX5_faultOfSet 9 = .ok (.iload_n 1, 1) := by decide +kernel
theorem dX5_faultOfSet_10 : decode cX5_faultOfSet 10 = .ok (.sipush 999, 3) := by decide +kernel
theorem dX5_faultOfSet_13 : decode cX5_faultOfSet 13 = .ok (.if_icmp .le 19, 3) := by decide +kernel
theorem dX5_faultOfSet_16 : decode cX5_faultOfSet 16 = .ok (.iload_n 0, 1) := by decide +kernel
theorem dX5_faultOfSet_17 : decode cX5_faultOfSet 17 = .ok (.iconst 1, 1) := by decide +kernel
theorem dX5_faultOfSet_18 : decode cX5_faultOfSet 18 = .ok (.if_icmp .ne 18, 3) := by decide +kernel
theorem dX5_faultOfSet_21 : decode cX5_faultOfSet 21 = .ok (.iload_n 1, 1) := by decide +kernel
theorem dX5_faultOfSet_22 : decode cX5_faultOfSet 22 = .ok (.ifCond .lt 14, 3) := by decide +kernel
theorem dX5_faultOfSet_25 : decode cX5_faultOfSet 25 = .ok (.iload_n 1, 1) := by decide +kernel
theorem dX5_faultOfSet_26 : decode cX5_faultOfSet 26 = .ok (.sipush 9999, 3) := by decide +kernel
theorem dX5_faultOfSet_29 : decode cX5_faultOfSet 29 = .ok (.if_icmp .gt 7, 3) := by decide +kernel
theorem dX5_faultOfSet_32 : decode cX5_faultOfSet 32 = .ok (.iconst 1, 1) := by decide +kernel
theorem dX5_faultOfSet_33 : decode cX5_faultOfSet 33 = .ok (.goto 4, 3) := by decide +kernel
theorem dX5_faultOfSet_36 : decode cX5_faultOfSet 36 = .ok (.iconst 0, 1) := by decide +kernel
theorem dX5_faultOfSet_37 : decode cX5_faultOfSet 37 = .ok (.istore_n 2, 1) := by decide +kernel
theorem dX5_faultOfSet_38 : decode cX5_faultOfSet 38 = .ok (.iload_n 2, 1) := by decide +kernel
theorem dX5_faultOfSet_39 : decode cX5_faultOfSet 39 = .ok (.ifCond .eq 7, 3) := by decide +kernel
theorem dX5_faultOfSet_42 : decode cX5_faultOfSet 42 = .ok (.iconst 0, 1) := by decide +kernel
theorem dX5_faultOfSet_43 : decode cX5_faultOfSet 43 = .ok (.goto 4, 3) := by decide +kernel
theorem dX5_faultOfSet_46 : decode cX5_faultOfSet 46 = .ok (.iconst 2, 1) := by decide +kernel
theorem dX5_faultOfSet_47 : decode cX5_faultOfSet 47 = .ok (.ireturn, 1) := by decide +kernel
theorem dX5_isFamily_0 : decode cX5_isFamily 0 = .ok (.iload_n 0, 1) := by decide +kernel
theorem dX5_isFamily_1 : decode cX5_isFamily 1 = .ok (.ifCond .lt 12, 3) := by decide +kernel
theorem dX5_isFamily_4 : decode cX5_isFamily 4 = .ok (.iload_n 0, 1) := by decide +kernel
theorem dX5_isFamily_5 : decode cX5_isFamily 5 = .ok (.iconst 5, 1) := by decide +kernel
theorem dX5_isFamily_6 : decode cX5_isFamily 6 = .ok (.if_icmp .ge 7, 3) := by decide +kernel
theorem dX5_isFamily_9 : decode cX5_isFamily 9 = .ok (.iconst 1, 1) := by decide +kernel
theorem dX5_isFamily_10 : decode cX5_isFamily 10 = .ok (.goto 4, 3) := by decide +kernel
theorem dX5_isFamily_13 : decode cX5_isFamily 13 = .ok (.iconst 0, 1) := by decide +kernel
theorem dX5_isFamily_14 : decode cX5_isFamily 14 = .ok (.ireturn, 1) := by decide +kernel
theorem dX5_isDay_0 : decode cX5_isDay 0 = .ok (.iload_n 0, 1) := by decide +kernel
theorem dX5_isDay_1 : decode cX5_isDay 1 = .ok (.ifCond .lt 13, 3) := by decide +kernel
theorem dX5_isDay_4 : decode cX5_isDay 4 = .ok (.iload_n 0, 1) := by decide +kernel
theorem dX5_isDay_5 : decode cX5_isDay 5 = .ok (.bipush 40, 2) := by decide +kernel
theorem dX5_isDay_7 : decode cX5_isDay 7 = .ok (.if_icmp .ge 7, 3) := by decide +kernel
theorem dX5_isDay_10 : decode cX5_isDay 10 = .ok (.iconst 1, 1) := by decide +kernel
theorem dX5_isDay_11 : decode cX5_isDay 11 = .ok (.goto 4, 3) := by decide +kernel
theorem dX5_isDay_14 : decode cX5_isDay 14 = .ok (.iconst 0, 1) := by decide +kernel
theorem dX5_isDay_15 : decode cX5_isDay 15 = .ok (.ireturn, 1) := by decide +kernel
set_option maxRecDepth 20000 in
theorem ggX6_init_X6_begin : GoodIn wsX6_init wsX6_begin := goodIn_r _ [15] (by decide +kernel) (by decide +kernel)
set_option maxRecDepth 20000 in
theorem gX6_init_X6_begin : GoodIn wsX6_init (va_wsS RX6 29 yX6_begin wsX6_begin) := goodIn_app (goodIn_of _ (by decide +kernel)) ggX6_init_X6_begin
theorem dX6_init_0 : decode cX6_init 0 = .ok (.aload_n 0, 1) := by decide +kernel
theorem dX6_init_1 : decode cX6_init 1 = .ok (.invokespecial 1, 3) := by decide +kernel
theorem dX6_init_4 : decode cX6_init 4 = .ok (.aload_n 0, 1) := by decide +kernel
theorem dX6_init_5 : decode cX6_init 5 = .ok (.bipush 120, 2) := by decide +kernel
theorem dX6_init_7 : decode cX6_init 7 = .ok (.newarray .int, 2) := by decide +kernel
theorem dX6_init_9 : decode cX6_init 9 = .ok (.putfield 7, 3) := by decide +kernel
theorem dX6_init_12 : decode cX6_init 12 = .ok (.aload_n 0, 1) := by decide +kernel
theorem dX6_init_13 : decode cX6_init 13 = .ok (.sipush 1555, 3) := by decide +kernel
theorem dX6_init_16 : decode cX6_init 16 = .ok (.newarray .int, 2) := by decide +kernel
theorem dX6_init_18 : decode cX6_init 18 = .ok (.putfield 13, 3) := by decide +kernel
theorem dX6_init_21 : decode cX6_init 21 = .ok (.aload_n 0, 1) := by decide +kernel
theorem dX6_init_22 : decode cX6_init 22 = .ok (.sipush 1555, 3) := by decide +kernel
theorem dX6_init_25 : decode cX6_init 25 = .ok (.newarray .int, 2) := by decide +kernel
theorem dX6_init_27 : decode cX6_init 27 = .ok (.putfield 16, 3) := by decide +kernel
theorem dX6_init_30 : decode cX6_init 30 = .ok (.aload_n 0, 1) := by decide +kernel
theorem dX6_init_31 : decode cX6_init 31 = .ok (.sipush 21770, 3) := by decide +kernel
theorem dX6_init_34 : decode cX6_init 34 = .ok (.newarray .int, 2) := by decide +kernel
theorem dX6_init_36 : decode cX6_init 36 = .ok (.putfield 19, 3) := by decide +kernel
theorem dX6_init_39 : decode cX6_init 39 = .ok (.aload_n 0, 1) := by decide +kernel
theorem dX6_init_40 : decode cX6_init 40 = .ok (.sipush 3110, 3) := by decide +kernel
theorem dX6_init_43 : decode cX6_init 43 = .ok (.newarray .int, 2) := by decide +kernel
theorem dX6_init_45 : decode cX6_init 45 = .ok (.putfield 22, 3) := by decide +kernel
theorem dX6_init_48 : decode cX6_init 48 = .ok (.aload_n 0, 1) := by decide +kernel
theorem dX6_init_49 : decode cX6_init 49 = .ok (.iconst 2, 1) := by decide +kernel
theorem dX6_init_50 : decode cX6_init 50 = .ok (.newarray .boolean, 2) := by decide +kernel
theorem dX6_init_52 : decode cX6_init 52 = .ok (.putfield 25, 3) := by decide +kernel
theorem dX6_init_55 : decode cX6_init 55 = .ok (.aload_n 0, 1) := by decide +kernel
theorem dX6_init_56 : decode cX6_init 56 = .ok (.getfield 13, 3) := by decide +kernel
theorem dX6_init_59 : decode cX6_init 59 = .ok (.invokestatic 29, 3) := by decide +kernel
theorem dX6_init_62 : decode cX6_init 62 = .ok (.return_, 1) := by decide +kernel
theorem dX6_begin_0 : decode cX6_begin 0 = .ok (.iconst 0, 1) := by decide +kernel
theorem dX6_begin_1 : decode cX6_begin 1 = .ok (.istore_n 1, 1) := by decide +kernel
theorem dX6_begin_2 : decode cX6_begin 2 = .ok (.iload_n 1, 1) := by decide +kernel
theorem dX6_begin_3 : decode cX6_begin 3 = .ok (.sipush 1555, 3) := by decide +kernel
theorem dX6_begin_6 : decode cX6_begin 6 = .ok (.if_icmp .ge 13, 3) := by decide +kernel
theorem dX6_begin_9 : decode cX6_begin 9 = .ok (.aload_n 0, 1) := by decide +kernel
theorem dX6_begin_10 : decode cX6_begin 10 = .ok (.iload_n 1, 1) := by decide +kernel
theorem dX6_begin_11 : decode cX6_begin 11 = .ok (.iconst 0, 1) := by decide +kernel
theorem dX6_begin_12 : decode cX6_begin 12 = .ok (.iastore, 1) := by decide +kernel
theorem dX6_begin_13 : decode cX6_begin 13 = .ok (.iinc 1 1, 3) := by decide +kernel
theorem dX6_begin_16 : decode cX6_begin 16 = .ok (.goto (-14), 3) := by decide +kernel
theorem dX6_begin_19 : decode cX6_begin 19 = .ok (.aload_n 0, 1) := by decide +kernel
theorem dX6_begin_20 : decode cX6_begin 20 = .ok (.iconst 2, 1) := by decide +kernel
theorem dX6_begin_21 : decode cX6_begin 21 = .ok (.sipush 250, 3) := by decide +kernel
theorem dX6_begin_24 : decode cX6_begin 24 = .ok (.iastore, 1) := by decide +kernel
theorem dX6_begin_25 : decode cX6_begin 25 = .ok (.aload_n 0, 1) := by decide +kernel
theorem dX6_begin_26 : decode cX6_begin 26 = .ok (.iconst 3, 1) := by decide +kernel
theorem dX6_begin_27 : decode cX6_begin 27 = .ok (.sipush 500, 3) := by decide +kernel
theorem dX6_begin_30 : decode cX6_begin 30 = .ok (.iastore, 1) := by decide +kernel
theorem dX6_begin_31 : decode cX6_begin 31 = .ok (.return_, 1) := by decide +kernel
theorem dX6_thrown_0 : decode cX6_thrown 0 = .ok (.aload_n 0, 1) := by decide +kernel
theorem dX6_thrown_1 : decode cX6_thrown 1 = .ok (.getfield 33, 3) := by decide +kernel
theorem dX6_thrown_4 : decode cX6_thrown 4 = .ok (.ireturn, 1) := by decide +kernel
theorem dX6_refused_0 : decode cX6_refused 0 = .ok (.aload_n 0, 1) := by decide +kernel
theorem dX6_refused_1 : decode cX6_refused 1 = .ok (.iload_n 1, 1) := by decide +kernel
theorem dX6_refused_2 : decode cX6_refused 2 = .ok (.putfield 33, 3) := by decide +kernel
theorem dX6_refused_5 : decode cX6_refused 5 = .ok (.iload_n 1, 1) := by decide +kernel
theorem dX6_refused_6 : decode cX6_refused 6 = .ok (.ifCond .le 7, 3) := by decide +kernel
theorem dX6_refused_9 : decode cX6_refused 9 = .ok (.iconst 1, 1) := by decide +kernel
theorem dX6_refused_10 : decode cX6_refused 10 = .ok (.goto 4, 3) := by decide +kernel
theorem dX6_refused_13 : decode cX6_refused 13 = .ok (.iconst 0, 1) := by decide +kernel
theorem dX6_refused_14 : decode cX6_refused 14 = .ok (.ireturn, 1) := by decide +kernel
theorem dX6_in_0 : decode cX6_in 0 = .ok (.lload_n 0, 1) := by decide +kernel
theorem dX6_in_1 : decode cX6_in 1 = .ok (.lload_n 2, 1) := by decide +kernel
theorem dX6_in_2 : decode cX6_in 2 = .ok (.lcmp, 1) := by decide +kernel
theorem dX6_in_3 : decode cX6_in 3 = .ok (.ifCond .lt 14, 3) := by decide +kernel
theorem dX6_in_6 : decode cX6_in 6 = .ok (.lload_n 0, 1) := by decide +kernel
theorem dX6_in_7 : decode cX6_in 7 = .ok (.lload 4, 2) := by decide +kernel
theorem dX6_in_9 : decode cX6_in 9 = .ok (.lcmp, 1) := by decide +kernel
theorem dX6_in_10 : decode cX6_in 10 = .ok (.ifCond .gt 7, 3) := by decide +kernel
theorem dX6_in_13 : decode cX6_in 13 = .ok (.iconst 1, 1) := by decide +kernel
theorem dX6_in_14 : decode cX6_in 14 = .ok (.goto 4, 3) := by decide +kernel
theorem dX6_in_17 : decode cX6_in 17 = .ok (.iconst 0, 1) := by decide +kernel
theorem dX6_in_18 : decode cX6_in 18 = .ok (.ireturn, 1) := by decide +kernel
theorem dX6_copyTerm_0 : decode cX6_copyTerm 0 = .ok (.iconst 0, 1) := by decide +kernel
theorem dX6_copyTerm_1 : decode cX6_copyTerm 1 = .ok (.istore 4, 2) := by decide +kernel
theorem dX6_copyTerm_3 : decode cX6_copyTerm 3 = .ok (.iload 4, 2) := by decide +kernel
theorem dX6_copyTerm_5 : decode cX6_copyTerm 5 = .ok (.sipush 1555, 3) := by decide +kernel
theorem dX6_copyTerm_8 : decode cX6_copyTerm 8 = .ok (.if_icmp .ge 21, 3) := by decide +kernel
theorem dX6_copyTerm_11 : decode cX6_copyTerm 11 = .ok (.aload_n 2, 1) := by decide +kernel
theorem dX6_copyTerm_12 : decode cX6_copyTerm 12 = .ok (.iload_n 3, 1) := by decide +kernel
theorem dX6_copyTerm_13 : decode cX6_copyTerm 13 = .ok (.iload 4, 2) := by decide +kernel
theorem dX6_copyTerm_15 : decode cX6_copyTerm 15 = .ok (.iadd, 1) := by decide +kernel
theorem dX6_copyTerm_16 : decode cX6_copyTerm 16 = .ok (.aload_n 0, 1) := by decide +kernel
theorem dX6_copyTerm_17 : decode cX6_copyTerm 17 = .ok (.iload_n 1, 1) := by decide +kernel
theorem dX6_copyTerm_18 : decode cX6_copyTerm 18 = .ok (.iload 4, 2) := by decide +kernel
theorem dX6_copyTerm_20 : decode cX6_copyTerm 20 = .ok (.iadd, 1) := by decide +kernel
theorem dX6_copyTerm_21 : decode cX6_copyTerm 21 = .ok (.iaload, 1) := by decide +kernel
theorem dX6_copyTerm_22 : decode cX6_copyTerm 22 = .ok (.iastore, 1) := by decide +kernel
theorem dX6_copyTerm_23 : decode cX6_copyTerm 23 = .ok (.iinc 4 1, 3) := by decide +kernel
theorem dX6_copyTerm_26 : decode cX6_copyTerm 26 = .ok (.goto (-23), 3) := by decide +kernel
theorem dX6_copyTerm_29 : decode cX6_copyTerm 29 = .ok (.return_, 1) := by decide +kernel
set_option maxRecDepth 20000 in
theorem ggX6_isChild_X6_in : GoodIn wsX6_isChild wsX6_in := goodIn_r _ [4] (by decide +kernel) (by decide +kernel)
set_option maxRecDepth 20000 in
theorem gX6_isChild_X6_in : GoodIn wsX6_isChild (va_wsS RX6 37 yX6_in wsX6_in) := goodIn_app (goodIn_of _ (by decide +kernel)) ggX6_isChild_X6_in
theorem dX6_isChild_0 : decode cX6_isChild 0 = .ok (.iload_n 1, 1) := by decide +kernel
theorem dX6_isChild_1 : decode cX6_isChild 1 = .ok (.i2l, 1) := by decide +kernel
theorem dX6_isChild_2 : decode cX6_isChild 2 = .ok (.lconst 0, 1) := by decide +kernel
theorem dX6_isChild_3 : decode cX6_isChild 3 = .ok (.aload_n 0, 1) := by decide +kernel
theorem dX6_isChild_4 : decode cX6_isChild 4 = .ok (.iconst 1, 1) := by decide +kernel
theorem dX6_isChild_5 : decode cX6_isChild 5 = .ok (.iaload, 1) := by decide +kernel
theorem dX6_isChild_6 : decode cX6_isChild 6 = .ok (.iconst 1, 1) := by decide +kernel
theorem dX6_isChild_7 : decode cX6_isChild 7 = .ok (.isub, 1) := by decide +kernel
theorem dX6_isChild_8 : decode cX6_isChild 8 = .ok (.i2l, 1) := by decide +kernel
theorem dX6_isChild_9 : decode cX6_isChild 9 = .ok (.invokestatic 37, 3) := by decide +kernel
theorem dX6_isChild_12 : decode cX6_isChild 12 = .ok (.ireturn, 1) := by decide +kernel
set_option maxRecDepth 20000 in
theorem ggX6_isFamily_X6_in : GoodIn wsX6_isFamily wsX6_in := goodIn_r _ [5] (by decide +kernel) (by decide +kernel)
set_option maxRecDepth 20000 in
theorem gX6_isFamily_X6_in : GoodIn wsX6_isFamily (va_wsS RX6 37 yX6_in wsX6_in) := goodIn_app (goodIn_of _ (by decide +kernel)) ggX6_isFamily_X6_in
theorem dX6_isFamily_0 : decode cX6_isFamily 0 = .ok (.iload_n 0, 1) := by decide +kernel
theorem dX6_isFamily_1 : decode cX6_isFamily 1 = .ok (.i2l, 1) := by decide +kernel
theorem dX6_isFamily_2 : decode cX6_isFamily 2 = .ok (.lconst 0, 1) := by decide +kernel
theorem dX6_isFamily_3 : decode cX6_isFamily 3 = .ok (.ldc2_w 41, 3) := by decide +kernel
theorem dX6_isFamily_6 : decode cX6_isFamily 6 = .ok (.invokestatic 37, 3) := by decide +kernel
theorem dX6_isFamily_9 : decode cX6_isFamily 9 = .ok (.ireturn, 1) := by decide +kernel
set_option maxRecDepth 20000 in
theorem ggX6_isDay_X6_in : GoodIn wsX6_isDay wsX6_in := goodIn_r _ [5] (by decide +kernel) (by decide +kernel)
set_option maxRecDepth 20000 in
theorem gX6_isDay_X6_in : GoodIn wsX6_isDay (va_wsS RX6 37 yX6_in wsX6_in) := goodIn_app (goodIn_of _ (by decide +kernel)) ggX6_isDay_X6_in
theorem dX6_isDay_0 : decode cX6_isDay 0 = .ok (.iload_n 0, 1) := by decide +kernel
theorem dX6_isDay_1 : decode cX6_isDay 1 = .ok (.i2l, 1) := by decide +kernel
theorem dX6_isDay_2 : decode cX6_isDay 2 = .ok (.lconst 0, 1) := by decide +kernel
theorem dX6_isDay_3 : decode cX6_isDay 3 = .ok (.ldc2_w 43, 3) := by decide +kernel
theorem dX6_isDay_6 : decode cX6_isDay 6 = .ok (.invokestatic 37, 3) := by decide +kernel
theorem dX6_isDay_9 : decode cX6_isDay 9 = .ok (.ireturn, 1) := by decide +kernel
theorem dX6_at_0 : decode cX6_at 0 = .ok (.bipush 40, 2) := by decide +kernel
theorem dX6_at_2 : decode cX6_at 2 = .ok (.iload_n 0, 1) := by decide +kernel
theorem dX6_at_3 : decode cX6_at 3 = .ok (.imul, 1) := by decide +kernel
theorem dX6_at_4 : decode cX6_at 4 = .ok (.iload_n 1, 1) := by decide +kernel
theorem dX6_at_5 : decode cX6_at 5 = .ok (.iadd, 1) := by decide +kernel
theorem dX6_at_6 : decode cX6_at 6 = .ok (.ireturn, 1) := by decide +kernel
set_option maxRecDepth 20000 in
theorem ggX6_isEntitled_X6_in : GoodIn wsX6_isEntitled wsX6_in := goodIn_r _ [4] (by decide +kernel) (by decide +kernel)
set_option maxRecDepth 20000 in
theorem gX6_isEntitled_X6_in : GoodIn wsX6_isEntitled (va_wsS RX6 37 yX6_in wsX6_in) := goodIn_app (goodIn_of _ (by decide +kernel)) ggX6_isEntitled_X6_in
theorem dX6_isEntitled_0 : decode cX6_isEntitled 0 = .ok (.aload_n 0, 1) := by decide +kernel
theorem dX6_isEntitled_1 : decode cX6_isEntitled 1 = .ok (.bipush 81, 2) := by decide +kernel
theorem dX6_isEntitled_3 : decode cX6_isEntitled 3 = .ok (.iload_n 1, 1) := by decide +kernel
theorem dX6_isEntitled_4 : decode cX6_isEntitled 4 = .ok (.iadd, 1) := by decide +kernel
theorem dX6_isEntitled_5 : decode cX6_isEntitled 5 = .ok (.iaload, 1) := by decide +kernel
theorem dX6_isEntitled_6 : decode cX6_isEntitled 6 = .ok (.iconst (-1), 1) := by decide +kernel
theorem dX6_isEntitled_7 : decode cX6_isEntitled 7 = .ok (.if_icmp .eq 29, 3) := by decide +kernel
theorem dX6_isEntitled_10 : decode cX6_isEntitled 10 = .ok (.iload_n 2, 1) := by decide +kernel
theorem dX6_isEntitled_11 : decode cX6_isEntitled 11 = .ok (.i2l, 1) := by decide +kernel
theorem dX6_isEntitled_12 : decode cX6_isEntitled 12 = .ok (.aload_n 0, 1) := by decide +kernel
theorem dX6_isEntitled_13 : decode cX6_isEntitled 13 = .ok (.bipush 81, 2) := by decide +kernel
theorem dX6_isEntitled_15 : decode cX6_isEntitled 15 = .ok (.iload_n 1, 1) := by decide +kernel
theorem dX6_isEntitled_16 : decode cX6_isEntitled 16 = .ok (.iadd, 1) := by decide +kernel
theorem dX6_isEntitled_17 : decode cX6_isEntitled 17 = .ok (.iaload, 1) := by decide +kernel
theorem dX6_isEntitled_18 : decode cX6_isEntitled 18 = .ok (.i2l, 1) := by decide +kernel
theorem dX6_isEntitled_19 : decode cX6_isEntitled 19 = .ok (.aload_n 0, 1) := by decide +kernel
theorem dX6_isEntitled_20 : decode cX6_isEntitled 20 = .ok (.bipush 93, 2) := by decide +kernel
theorem dX6_isEntitled_22 : decode cX6_isEntitled 22 = .ok (.iload_n 1, 1) := by decide +kernel
theorem dX6_isEntitled_23 : decode cX6_isEntitled 23 = .ok (.iadd, 1) := by decide +kernel
theorem dX6_isEntitled_24 : decode cX6_isEntitled 24 = .ok (.iaload, 1) := by decide +kernel
theorem dX6_isEntitled_25 : decode cX6_isEntitled 25 = .ok (.i2l, 1) := by decide +kernel
theorem dX6_isEntitled_26 : decode cX6_isEntitled 26 = .ok (.invokestatic 37, 3) := by decide +kernel
theorem dX6_isEntitled_29 : decode cX6_isEntitled 29 = .ok (.ifCond .eq 7, 3) := by decide +kernel
theorem dX6_isEntitled_32 : decode cX6_isEntitled 32 = .ok (.iconst 1, 1) := by decide +kernel
theorem dX6_isEntitled_33 : decode cX6_isEntitled 33 = .ok (.goto 4, 3) := by decide +kernel
theorem dX6_isEntitled_36 : decode cX6_isEntitled 36 = .ok (.iconst 0, 1) := by decide +kernel
theorem dX6_isEntitled_37 : decode cX6_isEntitled 37 = .ok (.ireturn, 1) := by decide +kernel
set_option maxRecDepth 20000 in
theorem ggX6_count_X6_at : GoodIn wsX6_count wsX6_at := goodIn_r _ [4] (by decide +kernel) (by decide +kernel)
set_option maxRecDepth 20000 in
theorem gX6_count_X6_at : GoodIn wsX6_count (va_wsS RX6 45 yX6_at wsX6_at) := goodIn_app (goodIn_of _ (by decide +kernel)) ggX6_count_X6_at
theorem dX6_count_0 : decode cX6_count 0 = .ok (.iconst 0, 1) := by decide +kernel
theorem dX6_count_1 : decode cX6_count 1 = .ok (.istore 4, 2) := by decide +kernel
theorem dX6_count_3 : decode cX6_count 3 = .ok (.iconst 0, 1) := by decide +kernel
theorem dX6_count_4 : decode cX6_count 4 = .ok (.istore 5, 2) := by decide +kernel
theorem dX6_count_6 : decode cX6_count 6 = .ok (.iload 5, 2) := by decide +kernel
theorem dX6_count_8 : decode cX6_count 8 = .ok (.aload_n 0, 1) := by decide +kernel
theorem dX6_count_9 : decode cX6_count 9 = .ok (.iconst 1, 1) := by decide +kernel
theorem dX6_count_10 : decode cX6_count 10 = .ok (.iaload, 1) := by decide +kernel
theorem dX6_count_11 : decode cX6_count 11 = .ok (.if_icmp .ge 85, 3) := by decide +kernel
theorem dX6_count_14 : decode cX6_count 14 = .ok (.iconst 0, 1) := by decide +kernel
theorem dX6_count_15 : decode cX6_count 15 = .ok (.istore 6, 2) := by decide +kernel
theorem dX6_count_17 : decode cX6_count 17 = .ok (.iload 6, 2) := by decide +kernel
theorem dX6_count_19 : decode cX6_count 19 = .ok (.bipush 40, 2) := by decide +kernel
theorem dX6_count_21 : decode cX6_count 21 = .ok (.if_icmp .ge 69, 3) := by decide +kernel
theorem dX6_count_24 : decode cX6_count 24 = .ok (.iload_n 1, 1) := by decide +kernel
theorem dX6_count_25 : decode cX6_count 25 = .ok (.iconst (-1), 1) := by decide +kernel
theorem dX6_count_26 : decode cX6_count 26 = .ok (.if_icmp .eq 9, 3) := by decide +kernel
theorem dX6_count_29 : decode cX6_count 29 = .ok (.iload 5, 2) := by decide +kernel
theorem dX6_count_31 : decode cX6_count 31 = .ok (.iload_n 1, 1) := by decide +kernel
theorem dX6_count_32 : decode cX6_count 32 = .ok (.if_icmp .ne 34, 3) := by decide +kernel
theorem dX6_count_35 : decode cX6_count 35 = .ok (.iload_n 2, 1) := by decide +kernel
theorem dX6_count_36 : decode cX6_count 36 = .ok (.iconst (-1), 1) := by decide +kernel
theorem dX6_count_37 : decode cX6_count 37 = .ok (.if_icmp .eq 9, 3) := by decide +kernel
theorem dX6_count_40 : decode cX6_count 40 = .ok (.iload 6, 2) := by decide +kernel
theorem dX6_count_42 : decode cX6_count 42 = .ok (.iload_n 2, 1) := by decide +kernel
theorem dX6_count_43 : decode cX6_count 43 = .ok (.if_icmp .ne 23, 3) := by decide +kernel
theorem dX6_count_46 : decode cX6_count 46 = .ok (.aload_n 0, 1) := by decide +kernel
theorem dX6_count_47 : decode cX6_count 47 = .ok (.bipush 115, 2) := by decide +kernel
theorem dX6_count_49 : decode cX6_count 49 = .ok (.iload 5, 2) := by decide +kernel
theorem dX6_count_51 : decode cX6_count 51 = .ok (.iload 6, 2) := by decide +kernel
theorem dX6_count_53 : decode cX6_count 53 = .ok (.invokestatic 45, 3) := by decide +kernel
theorem dX6_count_56 : decode cX6_count 56 = .ok (.iadd, 1) := by decide +kernel
theorem dX6_count_57 : decode cX6_count 57 = .ok (.iaload, 1) := by decide +kernel
theorem dX6_count_58 : decode cX6_count 58 = .ok (.iload_n 3, 1) := by decide +kernel
theorem dX6_count_59 : decode cX6_count 59 = .ok (.if_icmp .ne 7, 3) := by decide +kernel
theorem dX6_count_62 : decode cX6_count 62 = .ok (.iconst 1, 1) := by decide +kernel
theorem dX6_count_63 : decode cX6_count 63 = .ok (.goto 4, 3) := by decide +kernel
theorem dX6_count_66 : decode cX6_count 66 = .ok (.iconst 0, 1) := by decide +kernel
theorem dX6_count_67 : decode cX6_count 67 = .ok (.istore 7, 2) := by decide +kernel
theorem dX6_count_69 : decode cX6_count 69 = .ok (.iload 4, 2) := by decide +kernel
theorem dX6_count_71 : decode cX6_count 71 = .ok (.iload 7, 2) := by decide +kernel
theorem dX6_count_73 : decode cX6_count 73 = .ok (.ifCond .eq 7, 3) := by decide +kernel
theorem dX6_count_76 : decode cX6_count 76 = .ok (.iconst 1, 1) := by decide +kernel
theorem dX6_count_77 : decode cX6_count 77 = .ok (.goto 4, 3) := by decide +kernel
theorem dX6_count_80 : decode cX6_count 80 = .ok (.iconst 0, 1) := by decide +kernel
theorem dX6_count_81 : decode cX6_count 81 = .ok (.iadd, 1) := by decide +kernel
theorem dX6_count_82 : decode cX6_count 82 = .ok (.istore 4, 2) := by decide +kernel
theorem dX6_count_84 : decode cX6_count 84 = .ok (.iinc 6 1, 3) := by decide +kernel
theorem dX6_count_87 : decode cX6_count 87 = .ok (.goto (-70), 3) := by decide +kernel
theorem dX6_count_90 : decode cX6_count 90 = .ok (.iinc 5 1, 3) := by decide +kernel
theorem dX6_count_93 : decode cX6_count 93 = .ok (.goto (-87), 3) := by decide +kernel
theorem dX6_count_96 : decode cX6_count 96 = .ok (.iload 4, 2) := by decide +kernel
theorem dX6_count_98 : decode cX6_count 98 = .ok (.ireturn, 1) := by decide +kernel
set_option maxRecDepth 20000 in
theorem ggX6_served_X6_count : GoodIn wsX6_served wsX6_count := goodIn_r _ [4, 5, 6, 3, 7] (by decide +kernel) (by decide +kernel)
set_option maxRecDepth 20000 in
theorem gX6_served_X6_count : GoodIn wsX6_served (va_wsS RX6 49 yX6_count wsX6_count) := goodIn_app (goodIn_of _ (by decide +kernel)) ggX6_served_X6_count
theorem dX6_served_0 : decode cX6_served 0 = .ok (.aload_n 0, 1) := by decide +kernel
theorem dX6_served_1 : decode cX6_served 1 = .ok (.iload_n 1, 1) := by decide +kernel
theorem dX6_served_2 : decode cX6_served 2 = .ok (.iload_n 2, 1) := by decide +kernel
theorem dX6_served_3 : decode cX6_served 3 = .ok (.iconst 2, 1) := by decide +kernel
theorem dX6_served_4 : decode cX6_served 4 = .ok (.invokestatic 49, 3) := by decide +kernel
theorem dX6_served_7 : decode cX6_served 7 = .ok (.aload_n 0, 1) := by decide +kernel
theorem dX6_served_8 : decode cX6_served 8 = .ok (.iload_n 1, 1) := by decide +kernel
theorem dX6_served_9 : decode cX6_served 9 = .ok (.iload_n 2, 1) := by decide +kernel
theorem dX6_served_10 : decode cX6_served 10 = .ok (.iconst 3, 1) := by decide +kernel
theorem dX6_served_11 : decode cX6_served 11 = .ok (.invokestatic 49, 3) := by decide +kernel
theorem dX6_served_14 : decode cX6_served 14 = .ok (.iadd, 1) := by decide +kernel
theorem dX6_served_15 : decode cX6_served 15 = .ok (.ireturn, 1) := by decide +kernel
set_option maxRecDepth 20000 in
theorem ggX6_charged_X6_at : GoodIn wsX6_charged wsX6_at := goodIn_r _ [4] (by decide +kernel) (by decide +kernel)
set_option maxRecDepth 20000 in
theorem gX6_charged_X6_at : GoodIn wsX6_charged (va_wsS RX6 45 yX6_at wsX6_at) := goodIn_app (goodIn_of _ (by decide +kernel)) ggX6_charged_X6_at
theorem dX6_charged_0 : decode cX6_charged 0 = .ok (.iconst 0, 1) := by decide +kernel
theorem dX6_charged_1 : decode cX6_charged 1 = .ok (.istore_n 3, 1) := by decide +kernel
theorem dX6_charged_2 : decode cX6_charged 2 = .ok (.iconst 0, 1) := by decide +kernel
theorem dX6_charged_3 : decode cX6_charged 3 = .ok (.istore 4, 2) := by decide +kernel
theorem dX6_charged_5 : decode cX6_charged 5 = .ok (.iload 4, 2) := by decide +kernel
theorem dX6_charged_7 : decode cX6_charged 7 = .ok (.aload_n 0, 1) := by decide +kernel
theorem dX6_charged_8 : decode cX6_charged 8 = .ok (.iconst 1, 1) := by decide +kernel
theorem dX6_charged_9 : decode cX6_charged 9 = .ok (.iaload, 1) := by decide +kernel
theorem dX6_charged_10 : decode cX6_charged 10 = .ok (.if_icmp .ge 106, 3) := by decide +kernel
theorem dX6_charged_13 : decode cX6_charged 13 = .ok (.iconst 0, 1) := by decide +kernel
theorem dX6_charged_14 : decode cX6_charged 14 = .ok (.istore 5, 2) := by decide +kernel
theorem dX6_charged_16 : decode cX6_charged 16 = .ok (.iload 5, 2) := by decide +kernel
theorem dX6_charged_18 : decode cX6_charged 18 = .ok (.bipush 40, 2) := by decide +kernel
theorem dX6_charged_20 : decode cX6_charged 20 = .ok (.if_icmp .ge 90, 3) := by decide +kernel
theorem dX6_charged_23 : decode cX6_charged 23 = .ok (.aload_n 0, 1) := by decide +kernel
theorem dX6_charged_24 : decode cX6_charged 24 = .ok (.bipush 115, 2) := by decide +kernel
theorem dX6_charged_26 : decode cX6_charged 26 = .ok (.iload 4, 2) := by decide +kernel
theorem dX6_charged_28 : decode cX6_charged 28 = .ok (.iload 5, 2) := by decide +kernel
theorem dX6_charged_30 : decode cX6_charged 30 = .ok (.invokestatic 45, 3) := by decide +kernel
theorem dX6_charged_33 : decode cX6_charged 33 = .ok (.iadd, 1) := by decide +kernel
theorem dX6_charged_34 : decode cX6_charged 34 = .ok (.iaload, 1) := by decide +kernel
theorem dX6_charged_35 : decode cX6_charged 35 = .ok (.iconst 2, 1) := by decide +kernel
theorem dX6_charged_36 : decode cX6_charged 36 = .ok (.if_icmp .ne 40, 3) := by decide +kernel
theorem dX6_charged_39 : decode cX6_charged 39 = .ok (.iload_n 1, 1) := by decide +kernel
theorem dX6_charged_40 : decode cX6_charged 40 = .ok (.iconst (-1), 1) := by decide +kernel
theorem dX6_charged_41 : decode cX6_charged 41 = .ok (.if_icmp .eq 9, 3) := by decide +kernel
theorem dX6_charged_44 : decode cX6_charged 44 = .ok (.iload 5, 2) := by decide +kernel
theorem dX6_charged_46 : decode cX6_charged 46 = .ok (.iload_n 1, 1) := by decide +kernel
theorem dX6_charged_47 : decode cX6_charged 47 = .ok (.if_icmp .ne 29, 3) := by decide +kernel
theorem dX6_charged_50 : decode cX6_charged 50 = .ok (.iload_n 2, 1) := by decide +kernel
theorem dX6_charged_51 : decode cX6_charged 51 = .ok (.iconst (-1), 1) := by decide +kernel
theorem dX6_charged_52 : decode cX6_charged 52 = .ok (.if_icmp .eq 20, 3) := by decide +kernel
theorem dX6_charged_55 : decode cX6_charged 55 = .ok (.aload_n 0, 1) := by decide +kernel
theorem dX6_charged_56 : decode cX6_charged 56 = .ok (.sipush 1075, 3) := by decide +kernel
theorem dX6_charged_59 : decode cX6_charged 59 = .ok (.iload 4, 2) := by decide +kernel
theorem dX6_charged_61 : decode cX6_charged 61 = .ok (.iload 5, 2) := by decide +kernel
theorem dX6_charged_63 : decode cX6_charged 63 = .ok (.invokestatic 45, 3) := by decide +kernel
theorem dX6_charged_66 : decode cX6_charged 66 = .ok (.iadd, 1) := by decide +kernel
theorem dX6_charged_67 : decode cX6_charged 67 = .ok (.iaload, 1) := by decide +kernel
theorem dX6_charged_68 : decode cX6_charged 68 = .ok (.iload_n 2, 1) := by decide +kernel
theorem dX6_charged_69 : decode cX6_charged 69 = .ok (.if_icmp .ne 7, 3) := by decide +kernel
theorem dX6_charged_72 : decode cX6_charged 72 = .ok (.iconst 1, 1) := by decide +kernel
theorem dX6_charged_73 : decode cX6_charged 73 = .ok (.goto 4, 3) := by decide +kernel
theorem dX6_charged_76 : decode cX6_charged 76 = .ok (.iconst 0, 1) := by decide +kernel
theorem dX6_charged_77 : decode cX6_charged 77 = .ok (.istore 6, 2) := by decide +kernel
theorem dX6_charged_79 : decode cX6_charged 79 = .ok (.iload_n 3, 1) := by decide +kernel
theorem dX6_charged_80 : decode cX6_charged 80 = .ok (.iload 6, 2) := by decide +kernel
theorem dX6_charged_82 : decode cX6_charged 82 = .ok (.ifCond .eq 19, 3) := by decide +kernel
theorem dX6_charged_85 : decode cX6_charged 85 = .ok (.aload_n 0, 1) := by decide +kernel
theorem dX6_charged_86 : decode cX6_charged 86 = .ok (.sipush 595, 3) := by decide +kernel
theorem dX6_charged_89 : decode cX6_charged 89 = .ok (.iload 4, 2) := by decide +kernel
theorem dX6_charged_91 : decode cX6_charged 91 = .ok (.iload 5, 2) := by decide +kernel
theorem dX6_charged_93 : decode cX6_charged 93 = .ok (.invokestatic 45, 3) := by decide +kernel
theorem dX6_charged_96 : decode cX6_charged 96 = .ok (.iadd, 1) := by decide +kernel
theorem dX6_charged_97 : decode cX6_charged 97 = .ok (.iaload, 1) := by decide +kernel
theorem dX6_charged_98 : decode cX6_charged 98 = .ok (.goto 4, 3) := by decide +kernel
theorem dX6_charged_101 : decode cX6_charged 101 = .ok (.iconst 0, 1) := by decide +kernel
theorem dX6_charged_102 : decode cX6_charged 102 = .ok (.iadd, 1) := by decide +kernel
theorem dX6_charged_103 : decode cX6_charged 103 = .ok (.istore_n 3, 1) := by decide +kernel
theorem dX6_charged_104 : decode cX6_charged 104 = .ok (.iinc 5 1, 3) := by decide +kernel
theorem dX6_charged_107 : decode cX6_charged 107 = .ok (.goto (-91), 3) := by decide +kernel
theorem dX6_charged_110 : decode cX6_charged 110 = .ok (.iinc 4 1, 3) := by decide +kernel
theorem dX6_charged_113 : decode cX6_charged 113 = .ok (.goto (-108), 3) := by decide +kernel
theorem dX6_charged_116 : decode cX6_charged 116 = .ok (.iload_n 3, 1) := by decide +kernel
theorem dX6_charged_117 : decode cX6_charged 117 = .ok (.ireturn, 1) := by decide +kernel
theorem dX6_sum_0 : decode cX6_sum 0 = .ok (.iconst 0, 1) := by decide +kernel
theorem dX6_sum_1 : decode cX6_sum 1 = .ok (.istore_n 3, 1) := by decide +kernel
theorem dX6_sum_2 : decode cX6_sum 2 = .ok (.iconst 0, 1) := by decide +kernel
theorem dX6_sum_3 : decode cX6_sum 3 = .ok (.istore 4, 2) := by decide +kernel
theorem dX6_sum_5 : decode cX6_sum 5 = .ok (.iload 4, 2) := by decide +kernel
theorem dX6_sum_7 : decode cX6_sum 7 = .ok (.iload_n 2, 1) := by decide +kernel
theorem dX6_sum_8 : decode cX6_sum 8 = .ok (.if_icmp .ge 18, 3) := by decide +kernel
theorem dX6_sum_11 : decode cX6_sum 11 = .ok (.iload_n 3, 1) := by decide +kernel
theorem dX6_sum_12 : decode cX6_sum 12 = .ok (.aload_n 0, 1) := by decide +kernel
theorem dX6_sum_13 : decode cX6_sum 13 = .ok (.iload_n 1, 1) := by decide +kernel
theorem dX6_sum_14 : decode cX6_sum 14 = .ok (.iload 4, 2) := by decide +kernel
theorem dX6_sum_16 : decode cX6_sum 16 = .ok (.iadd, 1) := by decide +kernel
theorem dX6_sum_17 : decode cX6_sum 17 = .ok (.iaload, 1) := by decide +kernel
theorem dX6_sum_18 : decode cX6_sum 18 = .ok (.iadd, 1) := by decide +kernel
theorem dX6_sum_19 : decode cX6_sum 19 = .ok (.istore_n 3, 1) := by decide +kernel
theorem dX6_sum_20 : decode cX6_sum 20 = .ok (.iinc 4 1, 3) := by decide +kernel
theorem dX6_sum_23 : decode cX6_sum 23 = .ok (.goto (-18), 3) := by decide +kernel
theorem dX6_sum_26 : decode cX6_sum 26 = .ok (.iload_n 3, 1) := by decide +kernel
theorem dX6_sum_27 : decode cX6_sum 27 = .ok (.ireturn, 1) := by decide +kernel
theorem dX6_siblingFor_0 : decode cX6_siblingFor 0 = .ok (.iconst (-1), 1) := by decide +kernel
theorem dX6_siblingFor_1 : decode cX6_siblingFor 1 = .ok (.istore_n 2, 1) := by decide +kernel
theorem dX6_siblingFor_2 : decode cX6_siblingFor 2 = .ok (.iconst 0, 1) := by decide +kernel
theorem dX6_siblingFor_3 : decode cX6_siblingFor 3 = .ok (.istore_n 3, 1) := by decide +kernel
theorem dX6_siblingFor_4 : decode cX6_siblingFor 4 = .ok (.iload_n 3, 1) := by decide +kernel
theorem dX6_siblingFor_5 : decode cX6_siblingFor 5 = .ok (.aload_n 0, 1) := by decide +kernel
theorem dX6_siblingFor_6 : decode cX6_siblingFor 6 = .ok (.iconst 1, 1) := by decide +kernel
theorem dX6_siblingFor_7 : decode cX6_siblingFor 7 = .ok (.iaload, 1) := by decide +kernel
theorem dX6_siblingFor_8 : decode cX6_siblingFor 8 = .ok (.if_icmp .ge 94, 3) := by decide +kernel
theorem dX6_siblingFor_11 : decode cX6_siblingFor 11 = .ok (.aload_n 0, 1) := by decide +kernel
theorem dX6_siblingFor_12 : decode cX6_siblingFor 12 = .ok (.bipush 105, 2) := by decide +kernel
theorem dX6_siblingFor_14 : decode cX6_siblingFor 14 = .ok (.aload_n 0, 1) := by decide +kernel
theorem dX6_siblingFor_15 : decode cX6_siblingFor 15 = .ok (.bipush 45, 2) := by decide +kernel
theorem dX6_siblingFor_17 : decode cX6_siblingFor 17 = .ok (.iload_n 1, 1) := by decide +kernel
theorem dX6_siblingFor_18 : decode cX6_siblingFor 18 = .ok (.iadd, 1) := by decide +kernel
theorem dX6_siblingFor_19 : decode cX6_siblingFor 19 = .ok (.iaload, 1) := by decide +kernel
theorem dX6_siblingFor_20 : decode cX6_siblingFor 20 = .ok (.iadd, 1) := by decide +kernel
theorem dX6_siblingFor_21 : decode cX6_siblingFor 21 = .ok (.iaload, 1) := by decide +kernel
theorem dX6_siblingFor_22 : decode cX6_siblingFor 22 = .ok (.iconst 1, 1) := by decide +kernel
theorem dX6_siblingFor_23 : decode cX6_siblingFor 23 = .ok (.if_icmp .ne 79, 3) := by decide +kernel
theorem dX6_siblingFor_26 : decode cX6_siblingFor 26 = .ok (.iload_n 3, 1) := by decide +kernel
theorem dX6_siblingFor_27 : decode cX6_siblingFor 27 = .ok (.iload_n 1, 1) := by decide +kernel
theorem dX6_siblingFor_28 : decode cX6_siblingFor 28 = .ok (.if_icmp .eq 34, 3) := by decide +kernel
theorem dX6_siblingFor_31 : decode cX6_siblingFor 31 = .ok (.aload_n 0, 1) := by decide +kernel
theorem dX6_siblingFor_32 : decode cX6_siblingFor 32 = .ok (.bipush 45, 2) := by decide +kernel
theorem dX6_siblingFor_34 : decode cX6_siblingFor 34 = .ok (.iload_n 3, 1) := by decide +kernel
theorem dX6_siblingFor_35 : decode cX6_siblingFor 35 = .ok (.iadd, 1) := by decide +kernel
theorem dX6_siblingFor_36 : decode cX6_siblingFor 36 = .ok (.iaload, 1) := by decide +kernel
theorem dX6_siblingFor_37 : decode cX6_siblingFor 37 = .ok (.aload_n 0, 1) := by decide +kernel
theorem dX6_siblingFor_38 : decode cX6_siblingFor 38 = .ok (.bipush 45, 2) := by decide +kernel
theorem dX6_siblingFor_40 : decode cX6_siblingFor 40 = .ok (.iload_n 1, 1) := by decide +kernel
theorem dX6_siblingFor_41 : decode cX6_siblingFor 41 = .ok (.iadd, 1) := by decide +kernel
theorem dX6_siblingFor_42 : decode cX6_siblingFor 42 = .ok (.iaload, 1) := by decide +kernel
theorem dX6_siblingFor_43 : decode cX6_siblingFor 43 = .ok (.if_icmp .ne 19, 3) := by decide +kernel
theorem dX6_siblingFor_46 : decode cX6_siblingFor 46 = .ok (.aload_n 0, 1) := by decide +kernel
theorem dX6_siblingFor_47 : decode cX6_siblingFor 47 = .ok (.bipush 69, 2) := by decide +kernel
theorem dX6_siblingFor_49 : decode cX6_siblingFor 49 = .ok (.iload_n 3, 1) := by decide +kernel
theorem dX6_siblingFor_50 : decode cX6_siblingFor 50 = .ok (.iadd, 1) := by decide +kernel
theorem dX6_siblingFor_51 : decode cX6_siblingFor 51 = .ok (.iaload, 1) := by decide +kernel
theorem dX6_siblingFor_52 : decode cX6_siblingFor 52 = .ok (.aload_n 0, 1) := by decide +kernel
theorem dX6_siblingFor_53 : decode cX6_siblingFor 53 = .ok (.iconst 2, 1) := by decide +kernel
theorem dX6_siblingFor_54 : decode cX6_siblingFor 54 = .ok (.iaload, 1) := by decide +kernel
theorem dX6_siblingFor_55 : decode cX6_siblingFor 55 = .ok (.if_icmp .lt 7, 3) := by decide +kernel
theorem dX6_siblingFor_58 : decode cX6_siblingFor 58 = .ok (.iconst 1, 1) := by decide +kernel
theorem dX6_siblingFor_59 : decode cX6_siblingFor 59 = .ok (.goto 4, 3) := by decide +kernel
theorem dX6_siblingFor_62 : decode cX6_siblingFor 62 = .ok (.iconst 0, 1) := by decide +kernel
theorem dX6_siblingFor_63 : decode cX6_siblingFor 63 = .ok (.istore 4, 2) := by decide +kernel
theorem dX6_siblingFor_65 : decode cX6_siblingFor 65 = .ok (.iload 4, 2) := by decide +kernel
theorem dX6_siblingFor_67 : decode cX6_siblingFor 67 = .ok (.ifCond .eq 27, 3) := by decide +kernel
theorem dX6_siblingFor_70 : decode cX6_siblingFor 70 = .ok (.iload_n 2, 1) := by decide +kernel
theorem dX6_siblingFor_71 : decode cX6_siblingFor 71 = .ok (.iconst (-1), 1) := by decide +kernel
theorem dX6_siblingFor_72 : decode cX6_siblingFor 72 = .ok (.if_icmp .eq 18, 3) := by decide +kernel
theorem dX6_siblingFor_75 : decode cX6_siblingFor 75 = .ok (.aload_n 0, 1) := by decide +kernel
theorem dX6_siblingFor_76 : decode cX6_siblingFor 76 = .ok (.bipush 69, 2) := by decide +kernel
theorem dX6_siblingFor_78 : decode cX6_siblingFor 78 = .ok (.iload_n 3, 1) := by decide +kernel
theorem dX6_siblingFor_79 : decode cX6_siblingFor 79 = .ok (.iadd, 1) := by decide +kernel
theorem dX6_siblingFor_80 : decode cX6_siblingFor 80 = .ok (.iaload, 1) := by decide +kernel
theorem dX6_siblingFor_81 : decode cX6_siblingFor 81 = .ok (.aload_n 0, 1) := by decide +kernel
theorem dX6_siblingFor_82 : decode cX6_siblingFor 82 = .ok (.bipush 69, 2) := by decide +kernel
theorem dX6_siblingFor_84 : decode cX6_siblingFor 84 = .ok (.iload_n 2, 1) := by decide +kernel
theorem dX6_siblingFor_85 : decode cX6_siblingFor 85 = .ok (.iadd, 1) := by decide +kernel
theorem dX6_siblingFor_86 : decode cX6_siblingFor 86 = .ok (.iaload, 1) := by decide +kernel
theorem dX6_siblingFor_87 : decode cX6_siblingFor 87 = .ok (.if_icmp .le 7, 3) := by decide +kernel
theorem dX6_siblingFor_90 : decode cX6_siblingFor 90 = .ok (.iload_n 3, 1) := by decide +kernel
theorem dX6_siblingFor_91 : decode cX6_siblingFor 91 = .ok (.goto 4, 3) := by decide +kernel
theorem dX6_siblingFor_94 : decode cX6_siblingFor 94 = .ok (.iload_n 2, 1) := by decide +kernel
theorem dX6_siblingFor_95 : decode cX6_siblingFor 95 = .ok (.istore_n 2, 1) := by decide +kernel
theorem dX6_siblingFor_96 : decode cX6_siblingFor 96 = .ok (.iinc 3 1, 3) := by decide +kernel
theorem dX6_siblingFor_99 : decode cX6_siblingFor 99 = .ok (.goto (-95), 3) := by decide +kernel
theorem dX6_siblingFor_102 : decode cX6_siblingFor 102 = .ok (.iload_n 2, 1) := by decide +kernel
theorem dX6_siblingFor_103 : decode cX6_siblingFor 103 = .ok (.ireturn, 1) := by decide +kernel
set_option maxRecDepth 20000 in
theorem ggX6_serve_X6_at : GoodIn wsX6_serve wsX6_at := goodIn_r _ [4] (by decide +kernel) (by decide +kernel)
set_option maxRecDepth 20000 in
theorem gX6_serve_X6_at : GoodIn wsX6_serve (va_wsS RX6 45 yX6_at wsX6_at) := goodIn_app (goodIn_of _ (by decide +kernel)) ggX6_serve_X6_at
set_option maxRecDepth 20000 in
theorem ggX6_serve_X6_isEntitled : GoodIn wsX6_serve wsX6_isEntitled := goodIn_r _ [7, 8, 9, 3, 10] (by decide +kernel) (by decide +kernel)
set_option maxRecDepth 20000 in
theorem gX6_serve_X6_isEntitled : GoodIn wsX6_serve (va_wsS RX6 53 yX6_isEntitled wsX6_isEntitled) := goodIn_app (goodIn_of _ (by decide +kernel)) ggX6_serve_X6_isEntitled
set_option maxRecDepth 20000 in
theorem ggX6_serve_X6_siblingFor : GoodIn wsX6_serve wsX6_siblingFor := goodIn_r _ [13] (by decide +kernel) (by decide +kernel)
set_option maxRecDepth 20000 in
theorem gX6_serve_X6_siblingFor : GoodIn wsX6_serve (va_wsS RX6 57 yX6_siblingFor wsX6_siblingFor) := goodIn_app (goodIn_of _ (by decide +kernel)) ggX6_serve_X6_siblingFor
theorem dX6_serve_0 : decode cX6_serve 0 = .ok (.iload_n 1, 1) := by decide +kernel
theorem dX6_serve_1 : decode cX6_serve 1 = .ok (.iload_n 2, 1) := by decide +kernel
theorem dX6_serve_2 : decode cX6_serve 2 = .ok (.invokestatic 45, 3) := by decide +kernel
theorem dX6_serve_5 : decode cX6_serve 5 = .ok (.istore_n 3, 1) := by decide +kernel
theorem dX6_serve_6 : decode cX6_serve 6 = .ok (.aload_n 0, 1) := by decide +kernel
theorem dX6_serve_7 : decode cX6_serve 7 = .ok (.iconst 5, 1) := by decide +kernel
theorem dX6_serve_8 : decode cX6_serve 8 = .ok (.iload_n 2, 1) := by decide +kernel
theorem dX6_serve_9 : decode cX6_serve 9 = .ok (.iadd, 1) := by decide +kernel
theorem dX6_serve_10 : decode cX6_serve 10 = .ok (.iaload, 1) := by decide +kernel
theorem dX6_serve_11 : decode cX6_serve 11 = .ok (.aload_n 0, 1) := by decide +kernel
theorem dX6_serve_12 : decode cX6_serve 12 = .ok (.bipush 57, 2) := by decide +kernel
theorem dX6_serve_14 : decode cX6_serve 14 = .ok (.iload_n 1, 1) := by decide +kernel
theorem dX6_serve_15 : decode cX6_serve 15 = .ok (.iadd, 1) := by decide +kernel
theorem dX6_serve_16 : decode cX6_serve 16 = .ok (.iaload, 1) := by decide +kernel
theorem dX6_serve_17 : decode cX6_serve 17 = .ok (.iand, 1) := by decide +kernel
theorem dX6_serve_18 : decode cX6_serve 18 = .ok (.ifCond .eq 11, 3) := by decide +kernel
theorem dX6_serve_21 : decode cX6_serve 21 = .ok (.aload_n 0, 1) := by decide +kernel
theorem dX6_serve_22 : decode cX6_serve 22 = .ok (.bipush 115, 2) := by decide +kernel
theorem dX6_serve_24 : decode cX6_serve 24 = .ok (.iload_n 3, 1) := by decide +kernel
theorem dX6_serve_25 : decode cX6_serve 25 = .ok (.iadd, 1) := by decide +kernel
theorem dX6_serve_26 : decode cX6_serve 26 = .ok (.iconst 5, 1) := by decide +kernel
theorem dX6_serve_27 : decode cX6_serve 27 = .ok (.iastore, 1) := by decide +kernel
theorem dX6_serve_28 : decode cX6_serve 28 = .ok (.return_, 1) := by decide +kernel
theorem dX6_serve_29 : decode cX6_serve 29 = .ok (.aload_n 0, 1) := by decide +kernel
theorem dX6_serve_30 : decode cX6_serve 30 = .ok (.iload_n 1, 1) := by decide +kernel
theorem dX6_serve_31 : decode cX6_serve 31 = .ok (.iload_n 2, 1) := by decide +kernel
theorem dX6_serve_32 : decode cX6_serve 32 = .ok (.invokestatic 53, 3) := by decide +kernel
theorem dX6_serve_35 : decode cX6_serve 35 = .ok (.ifCond .eq 11, 3) := by decide +kernel
theorem dX6_serve_38 : decode cX6_serve 38 = .ok (.aload_n 0, 1) := by decide +kernel
theorem dX6_serve_39 : decode cX6_serve 39 = .ok (.bipush 115, 2) := by decide +kernel
theorem dX6_serve_41 : decode cX6_serve 41 = .ok (.iload_n 3, 1) := by decide +kernel
theorem dX6_serve_42 : decode cX6_serve 42 = .ok (.iadd, 1) := by decide +kernel
theorem dX6_serve_43 : decode cX6_serve 43 = .ok (.iconst 3, 1) := by decide +kernel
theorem dX6_serve_44 : decode cX6_serve 44 = .ok (.iastore, 1) := by decide +kernel
theorem dX6_serve_45 : decode cX6_serve 45 = .ok (.return_, 1) := by decide +kernel
theorem dX6_serve_46 : decode cX6_serve 46 = .ok (.aload_n 0, 1) := by decide +kernel
theorem dX6_serve_47 : decode cX6_serve 47 = .ok (.bipush 69, 2) := by decide +kernel
theorem dX6_serve_49 : decode cX6_serve 49 = .ok (.iload_n 1, 1) := by decide +kernel
theorem dX6_serve_50 : decode cX6_serve 50 = .ok (.iadd, 1) := by decide +kernel
theorem dX6_serve_51 : decode cX6_serve 51 = .ok (.iaload, 1) := by decide +kernel
theorem dX6_serve_52 : decode cX6_serve 52 = .ok (.aload_n 0, 1) := by decide +kernel
theorem dX6_serve_53 : decode cX6_serve 53 = .ok (.iconst 2, 1) := by decide +kernel
theorem dX6_serve_54 : decode cX6_serve 54 = .ok (.iaload, 1) := by decide +kernel
theorem dX6_serve_55 : decode cX6_serve 55 = .ok (.isub, 1) := by decide +kernel
theorem dX6_serve_56 : decode cX6_serve 56 = .ok (.aload_n 0, 1) := by decide +kernel
theorem dX6_serve_57 : decode cX6_serve 57 = .ok (.iconst 3, 1) := by decide +kernel
theorem dX6_serve_58 : decode cX6_serve 58 = .ok (.iaload, 1) := by decide +kernel
theorem dX6_serve_59 : decode cX6_serve 59 = .ok (.ineg, 1) := by decide +kernel
theorem dX6_serve_60 : decode cX6_serve 60 = .ok (.if_icmp .lt 7, 3) := by decide +kernel
theorem dX6_serve_63 : decode cX6_serve 63 = .ok (.iload_n 1, 1) := by decide +kernel
theorem dX6_serve_64 : decode cX6_serve 64 = .ok (.goto 8, 3) := by decide +kernel
theorem dX6_serve_67 : decode cX6_serve 67 = .ok (.aload_n 0, 1) := by decide +kernel
theorem dX6_serve_68 : decode cX6_serve 68 = .ok (.iload_n 1, 1) := by decide +kernel
theorem dX6_serve_69 : decode cX6_serve 69 = .ok (.invokestatic 57, 3) := by decide +kernel
theorem dX6_serve_72 : decode cX6_serve 72 = .ok (.istore 4, 2) := by decide +kernel
theorem dX6_serve_74 : decode cX6_serve 74 = .ok (.aload_n 0, 1) := by decide +kernel
theorem dX6_serve_75 : decode cX6_serve 75 = .ok (.bipush 115, 2) := by decide +kernel
theorem dX6_serve_77 : decode cX6_serve 77 = .ok (.iload_n 3, 1) := by decide +kernel
theorem dX6_serve_78 : decode cX6_serve 78 = .ok (.iadd, 1) := by decide +kernel
theorem dX6_serve_79 : decode cX6_serve 79 = .ok (.iload 4, 2) := by decide +kernel
theorem dX6_serve_81 : decode cX6_serve 81 = .ok (.iconst (-1), 1) := by decide +kernel
theorem dX6_serve_82 : decode cX6_serve 82 = .ok (.if_icmp .ne 7, 3) := by decide +kernel
theorem dX6_serve_85 : decode cX6_serve 85 = .ok (.iconst 4, 1) := by decide +kernel
theorem dX6_serve_86 : decode cX6_serve 86 = .ok (.goto 4, 3) := by decide +kernel
theorem dX6_serve_89 : decode cX6_serve 89 = .ok (.iconst 2, 1) := by decide +kernel
theorem dX6_serve_90 : decode cX6_serve 90 = .ok (.iastore, 1) := by decide +kernel
theorem dX6_serve_91 : decode cX6_serve 91 = .ok (.iload 4, 2) := by decide +kernel
theorem dX6_serve_93 : decode cX6_serve 93 = .ok (.iconst (-1), 1) := by decide +kernel
theorem dX6_serve_94 : decode cX6_serve 94 = .ok (.if_icmp .eq 35, 3) := by decide +kernel
theorem dX6_serve_97 : decode cX6_serve 97 = .ok (.aload_n 0, 1) := by decide +kernel
theorem dX6_serve_98 : decode cX6_serve 98 = .ok (.bipush 69, 2) := by decide +kernel
theorem dX6_serve_100 : decode cX6_serve 100 = .ok (.iload 4, 2) := by decide +kernel
theorem dX6_serve_102 : decode cX6_serve 102 = .ok (.iadd, 1) := by decide +kernel
theorem dX6_serve_103 : decode cX6_serve 103 = .ok (.dup2, 1) := by decide +kernel
theorem dX6_serve_104 : decode cX6_serve 104 = .ok (.iaload, 1) := by decide +kernel
theorem dX6_serve_105 : decode cX6_serve 105 = .ok (.aload_n 0, 1) := by decide +kernel
theorem dX6_serve_106 : decode cX6_serve 106 = .ok (.iconst 2, 1) := by decide +kernel
theorem dX6_serve_107 : decode cX6_serve 107 = .ok (.iaload, 1) := by decide +kernel
theorem dX6_serve_108 : decode cX6_serve 108 = .ok (.isub, 1) := by decide +kernel
theorem dX6_serve_109 : decode cX6_serve 109 = .ok (.iastore, 1) := by decide +kernel
theorem dX6_serve_110 : decode cX6_serve 110 = .ok (.aload_n 0, 1) := by decide +kernel
theorem dX6_serve_111 : decode cX6_serve 111 = .ok (.sipush 595, 3) := by decide +kernel
theorem dX6_serve_114 : decode cX6_serve 114 = .ok (.iload_n 3, 1) := by decide +kernel
theorem dX6_serve_115 : decode cX6_serve 115 = .ok (.iadd, 1) := by decide +kernel
theorem dX6_serve_116 : decode cX6_serve 116 = .ok (.aload_n 0, 1) := by decide +kernel
theorem dX6_serve_117 : decode cX6_serve 117 = .ok (.iconst 2, 1) := by decide +kernel
theorem dX6_serve_118 : decode cX6_serve 118 = .ok (.iaload, 1) := by decide +kernel
theorem dX6_serve_119 : decode cX6_serve 119 = .ok (.iastore, 1) := by decide +kernel
theorem dX6_serve_120 : decode cX6_serve 120 = .ok (.aload_n 0, 1) := by decide +kernel
theorem dX6_serve_121 : decode cX6_serve 121 = .ok (.sipush 1075, 3) := by decide +kernel
theorem dX6_serve_124 : decode cX6_serve 124 = .ok (.iload_n 3, 1) := by decide +kernel
theorem dX6_serve_125 : decode cX6_serve 125 = .ok (.iadd, 1) := by decide +kernel
theorem dX6_serve_126 : decode cX6_serve 126 = .ok (.iload 4, 2) := by decide +kernel
theorem dX6_serve_128 : decode cX6_serve 128 = .ok (.iastore, 1) := by decide +kernel
theorem dX6_serve_129 : decode cX6_serve 129 = .ok (.return_, 1) := by decide +kernel
set_option maxRecDepth 20000 in
theorem ggX6_daysOn_X6_served : GoodIn wsX6_daysOn wsX6_served := goodIn_r _ [4, 5, 6, 3, 7, 8, 9, 10] (by decide +kernel) (by decide +kernel)
set_option maxRecDepth 20000 in
theorem gX6_daysOn_X6_served : GoodIn wsX6_daysOn (va_wsS RX6 61 yX6_served wsX6_served) := goodIn_app (goodIn_of _ (by decide +kernel)) ggX6_daysOn_X6_served
set_option maxRecDepth 20000 in
theorem ggX6_daysOn_X6_at : GoodIn wsX6_daysOn wsX6_at := goodIn_r _ [10] (by decide +kernel) (by decide +kernel)
set_option maxRecDepth 20000 in
theorem gX6_daysOn_X6_at : GoodIn wsX6_daysOn (va_wsS RX6 45 yX6_at wsX6_at) := goodIn_app (goodIn_of _ (by decide +kernel)) ggX6_daysOn_X6_at
set_option maxRecDepth 20000 in
theorem ggX6_daysOn_X6_serve : GoodIn wsX6_daysOn wsX6_serve := goodIn_r _ [13, 8, 9, 3, 10, 14, 15, 16, 17, 18, 19, 20, 21, 22] (by decide +kernel) (by decide +kernel)
set_option maxRecDepth 20000 in
theorem gX6_daysOn_X6_serve : GoodIn wsX6_daysOn (va_wsS RX6 65 yX6_serve wsX6_serve) := goodIn_app (goodIn_of _ (by decide +kernel)) ggX6_daysOn_X6_serve
theorem dX6_daysOn_0 : decode cX6_daysOn 0 = .ok (.aload_n 0, 1) := by decide +kernel
theorem dX6_daysOn_1 : decode cX6_daysOn 1 = .ok (.iconst (-1), 1) := by decide +kernel
theorem dX6_daysOn_2 : decode cX6_daysOn 2 = .ok (.iconst (-1), 1) := by decide +kernel
theorem dX6_daysOn_3 : decode cX6_daysOn 3 = .ok (.invokestatic 61, 3) := by decide +kernel
theorem dX6_daysOn_6 : decode cX6_daysOn 6 = .ok (.istore_n 2, 1) := by decide +kernel
theorem dX6_daysOn_7 : decode cX6_daysOn 7 = .ok (.iconst 0, 1) := by decide +kernel
theorem dX6_daysOn_8 : decode cX6_daysOn 8 = .ok (.istore_n 3, 1) := by decide +kernel
theorem dX6_daysOn_9 : decode cX6_daysOn 9 = .ok (.iload_n 3, 1) := by decide +kernel
theorem dX6_daysOn_10 : decode cX6_daysOn 10 = .ok (.iload_n 1, 1) := by decide +kernel
theorem dX6_daysOn_11 : decode cX6_daysOn 11 = .ok (.if_icmp .ge 62, 3) := by decide +kernel
theorem dX6_daysOn_14 : decode cX6_daysOn 14 = .ok (.aload_n 0, 1) := by decide +kernel
theorem dX6_daysOn_15 : decode cX6_daysOn 15 = .ok (.iconst 0, 1) := by decide +kernel
theorem dX6_daysOn_16 : decode cX6_daysOn 16 = .ok (.iaload, 1) := by decide +kernel
theorem dX6_daysOn_17 : decode cX6_daysOn 17 = .ok (.istore 4, 2) := by decide +kernel
theorem dX6_daysOn_19 : decode cX6_daysOn 19 = .ok (.iconst 0, 1) := by decide +kernel
theorem dX6_daysOn_20 : decode cX6_daysOn 20 = .ok (.istore 5, 2) := by decide +kernel
theorem dX6_daysOn_22 : decode cX6_daysOn 22 = .ok (.iload 5, 2) := by decide +kernel
theorem dX6_daysOn_24 : decode cX6_daysOn 24 = .ok (.aload_n 0, 1) := by decide +kernel
theorem dX6_daysOn_25 : decode cX6_daysOn 25 = .ok (.iconst 1, 1) := by decide +kernel
theorem dX6_daysOn_26 : decode cX6_daysOn 26 = .ok (.iaload, 1) := by decide +kernel
theorem dX6_daysOn_27 : decode cX6_daysOn 27 = .ok (.if_icmp .ge 33, 3) := by decide +kernel
theorem dX6_daysOn_30 : decode cX6_daysOn 30 = .ok (.aload_n 0, 1) := by decide +kernel
theorem dX6_daysOn_31 : decode cX6_daysOn 31 = .ok (.bipush 115, 2) := by decide +kernel
theorem dX6_daysOn_33 : decode cX6_daysOn 33 = .ok (.iload 5, 2) := by decide +kernel
theorem dX6_daysOn_35 : decode cX6_daysOn 35 = .ok (.iload 4, 2) := by decide +kernel
theorem dX6_daysOn_37 : decode cX6_daysOn 37 = .ok (.invokestatic 45, 3) := by decide +kernel
theorem dX6_daysOn_40 : decode cX6_daysOn 40 = .ok (.iadd, 1) := by decide +kernel
theorem dX6_daysOn_41 : decode cX6_daysOn 41 = .ok (.iaload, 1) := by decide +kernel
theorem dX6_daysOn_42 : decode cX6_daysOn 42 = .ok (.iconst 1, 1) := by decide +kernel
theorem dX6_daysOn_43 : decode cX6_daysOn 43 = .ok (.if_icmp .ne 11, 3) := by decide +kernel
theorem dX6_daysOn_46 : decode cX6_daysOn 46 = .ok (.aload_n 0, 1) := by decide +kernel
theorem dX6_daysOn_47 : decode cX6_daysOn 47 = .ok (.iload 5, 2) := by decide +kernel
theorem dX6_daysOn_49 : decode cX6_daysOn 49 = .ok (.iload 4, 2) := by decide +kernel
theorem dX6_daysOn_51 : decode cX6_daysOn 51 = .ok (.invokestatic 65, 3) := by decide +kernel
theorem dX6_daysOn_54 : decode cX6_daysOn 54 = .ok (.iinc 5 1, 3) := by decide +kernel
theorem dX6_daysOn_57 : decode cX6_daysOn 57 = .ok (.goto (-35), 3) := by decide +kernel
theorem dX6_daysOn_60 : decode cX6_daysOn 60 = .ok (.aload_n 0, 1) := by decide +kernel
theorem dX6_daysOn_61 : decode cX6_daysOn 61 = .ok (.iconst 0, 1) := by decide +kernel
theorem dX6_daysOn_62 : decode cX6_daysOn 62 = .ok (.dup2, 1) := by decide +kernel
theorem dX6_daysOn_63 : decode cX6_daysOn 63 = .ok (.iaload, 1) := by decide +kernel
theorem dX6_daysOn_64 : decode cX6_daysOn 64 = .ok (.iconst 1, 1) := by decide +kernel
theorem dX6_daysOn_65 : decode cX6_daysOn 65 = .ok (.iadd, 1) := by decide +kernel
theorem dX6_daysOn_66 : decode cX6_daysOn 66 = .ok (.iastore, 1) := by decide +kernel
theorem dX6_daysOn_67 : decode cX6_daysOn 67 = .ok (.iinc 3 1, 3) := by decide +kernel
theorem dX6_daysOn_70 : decode cX6_daysOn 70 = .ok (.goto (-61), 3) := by decide +kernel
theorem dX6_daysOn_73 : decode cX6_daysOn 73 = .ok (.aload_n 0, 1) := by decide +kernel
theorem dX6_daysOn_74 : decode cX6_daysOn 74 = .ok (.iconst (-1), 1) := by decide +kernel
theorem dX6_daysOn_75 : decode cX6_daysOn 75 = .ok (.iconst (-1), 1) := by decide +kernel
theorem dX6_daysOn_76 : decode cX6_daysOn 76 = .ok (.invokestatic 61, 3) := by decide +kernel
theorem dX6_daysOn_79 : decode cX6_daysOn 79 = .ok (.iload_n 2, 1) := by decide +kernel
theorem dX6_daysOn_80 : decode cX6_daysOn 80 = .ok (.isub, 1) := by decide +kernel
theorem dX6_daysOn_81 : decode cX6_daysOn 81 = .ok (.ireturn, 1) := by decide +kernel
set_option maxRecDepth 20000 in
theorem ggX6_entitleOn_X6_sum : GoodIn wsX6_entitleOn wsX6_sum := goodIn_r _ [4] (by decide +kernel) (by decide +kernel)
set_option maxRecDepth 20000 in
theorem gX6_entitleOn_X6_sum : GoodIn wsX6_entitleOn (va_wsS RX6 69 yX6_sum wsX6_sum) := goodIn_app (goodIn_of _ (by decide +kernel)) ggX6_entitleOn_X6_sum
set_option maxRecDepth 20000 in
theorem ggX6_entitleOn_X6_at : GoodIn wsX6_entitleOn wsX6_at := goodIn_r _ [7] (by decide +kernel) (by decide +kernel)
set_option maxRecDepth 20000 in
theorem gX6_entitleOn_X6_at : GoodIn wsX6_entitleOn (va_wsS RX6 45 yX6_at wsX6_at) := goodIn_app (goodIn_of _ (by decide +kernel)) ggX6_entitleOn_X6_at
set_option maxRecDepth 20000 in
theorem ggX6_entitleOn_X6_isEntitled : GoodIn wsX6_entitleOn wsX6_isEntitled := goodIn_r _ [10, 11, 12, 3, 13] (by decide +kernel) (by decide +kernel)
set_option maxRecDepth 20000 in
theorem gX6_entitleOn_X6_isEntitled : GoodIn wsX6_entitleOn (va_wsS RX6 53 yX6_isEntitled wsX6_isEntitled) := goodIn_app (goodIn_of _ (by decide +kernel)) ggX6_entitleOn_X6_isEntitled
theorem dX6_entitleOn_0 : decode cX6_entitleOn 0 = .ok (.aload_n 0, 1) := by decide +kernel
theorem dX6_entitleOn_1 : decode cX6_entitleOn 1 = .ok (.bipush 69, 2) := by decide +kernel
theorem dX6_entitleOn_3 : decode cX6_entitleOn 3 = .ok (.aload_n 0, 1) := by decide +kernel
theorem dX6_entitleOn_4 : decode cX6_entitleOn 4 = .ok (.iconst 1, 1) := by decide +kernel
theorem dX6_entitleOn_5 : decode cX6_entitleOn 5 = .ok (.iaload, 1) := by decide +kernel
theorem dX6_entitleOn_6 : decode cX6_entitleOn 6 = .ok (.invokestatic 69, 3) := by decide +kernel
theorem dX6_entitleOn_9 : decode cX6_entitleOn 9 = .ok (.istore 4, 2) := by decide +kernel
theorem dX6_entitleOn_11 : decode cX6_entitleOn 11 = .ok (.aload_n 0, 1) := by decide +kernel
theorem dX6_entitleOn_12 : decode cX6_entitleOn 12 = .ok (.bipush 81, 2) := by decide +kernel
theorem dX6_entitleOn_14 : decode cX6_entitleOn 14 = .ok (.iload_n 1, 1) := by decide +kernel
theorem dX6_entitleOn_15 : decode cX6_entitleOn 15 = .ok (.iadd, 1) := by decide +kernel
theorem dX6_entitleOn_16 : decode cX6_entitleOn 16 = .ok (.iload_n 3, 1) := by decide +kernel
theorem dX6_entitleOn_17 : decode cX6_entitleOn 17 = .ok (.iconst (-1), 1) := by decide +kernel
theorem dX6_entitleOn_18 : decode cX6_entitleOn 18 = .ok (.if_icmp .ne 7, 3) := by decide +kernel
theorem dX6_entitleOn_21 : decode cX6_entitleOn 21 = .ok (.iconst (-1), 1) := by decide +kernel
theorem dX6_entitleOn_22 : decode cX6_entitleOn 22 = .ok (.goto 4, 3) := by decide +kernel
theorem dX6_entitleOn_25 : decode cX6_entitleOn 25 = .ok (.iload_n 2, 1) := by decide +kernel
theorem dX6_entitleOn_26 : decode cX6_entitleOn 26 = .ok (.iastore, 1) := by decide +kernel
theorem dX6_entitleOn_27 : decode cX6_entitleOn 27 = .ok (.aload_n 0, 1) := by decide +kernel
theorem dX6_entitleOn_28 : decode cX6_entitleOn 28 = .ok (.bipush 93, 2) := by decide +kernel
theorem dX6_entitleOn_30 : decode cX6_entitleOn 30 = .ok (.iload_n 1, 1) := by decide +kernel
theorem dX6_entitleOn_31 : decode cX6_entitleOn 31 = .ok (.iadd, 1) := by decide +kernel
theorem dX6_entitleOn_32 : decode cX6_entitleOn 32 = .ok (.iload_n 3, 1) := by decide +kernel
theorem dX6_entitleOn_33 : decode cX6_entitleOn 33 = .ok (.iastore, 1) := by decide +kernel
theorem dX6_entitleOn_34 : decode cX6_entitleOn 34 = .ok (.iconst 0, 1) := by decide +kernel
theorem dX6_entitleOn_35 : decode cX6_entitleOn 35 = .ok (.istore 5, 2) := by decide +kernel
theorem dX6_entitleOn_37 : decode cX6_entitleOn 37 = .ok (.iload 5, 2) := by decide +kernel
theorem dX6_entitleOn_39 : decode cX6_entitleOn 39 = .ok (.aload_n 0, 1) := by decide +kernel
theorem dX6_entitleOn_40 : decode cX6_entitleOn 40 = .ok (.iconst 0, 1) := by decide +kernel
theorem dX6_entitleOn_41 : decode cX6_entitleOn 41 = .ok (.iaload, 1) := by decide +kernel
theorem dX6_entitleOn_42 : decode cX6_entitleOn 42 = .ok (.if_icmp .ge 133, 3) := by decide +kernel
theorem dX6_entitleOn_45 : decode cX6_entitleOn 45 = .ok (.iload_n 1, 1) := by decide +kernel
theorem dX6_entitleOn_46 : decode cX6_entitleOn 46 = .ok (.iload 5, 2) := by decide +kernel
theorem dX6_entitleOn_48 : decode cX6_entitleOn 48 = .ok (.invokestatic 45, 3) := by decide +kernel
theorem dX6_entitleOn_51 : decode cX6_entitleOn 51 = .ok (.istore 6, 2) := by decide +kernel
theorem dX6_entitleOn_53 : decode cX6_entitleOn 53 = .ok (.aload_n 0, 1) := by decide +kernel
theorem dX6_entitleOn_54 : decode cX6_entitleOn 54 = .ok (.iload_n 1, 1) := by decide +kernel
theorem dX6_entitleOn_55 : decode cX6_entitleOn 55 = .ok (.iload 5, 2) := by decide +kernel
theorem dX6_entitleOn_57 : decode cX6_entitleOn 57 = .ok (.invokestatic 53, 3) := by decide +kernel
theorem dX6_entitleOn_60 : decode cX6_entitleOn 60 = .ok (.istore 7, 2) := by decide +kernel
theorem dX6_entitleOn_62 : decode cX6_entitleOn 62 = .ok (.aload_n 0, 1) := by decide +kernel
theorem dX6_entitleOn_63 : decode cX6_entitleOn 63 = .ok (.bipush 115, 2) := by decide +kernel
theorem dX6_entitleOn_65 : decode cX6_entitleOn 65 = .ok (.iload 6, 2) := by decide +kernel
theorem dX6_entitleOn_67 : decode cX6_entitleOn 67 = .ok (.iadd, 1) := by decide +kernel
theorem dX6_entitleOn_68 : decode cX6_entitleOn 68 = .ok (.iaload, 1) := by decide +kernel
theorem dX6_entitleOn_69 : decode cX6_entitleOn 69 = .ok (.iconst 2, 1) := by decide +kernel
theorem dX6_entitleOn_70 : decode cX6_entitleOn 70 = .ok (.if_icmp .ne 43, 3) := by decide +kernel
theorem dX6_entitleOn_73 : decode cX6_entitleOn 73 = .ok (.iload 7, 2) := by decide +kernel
theorem dX6_entitleOn_75 : decode cX6_entitleOn 75 = .ok (.ifCond .eq 38, 3) := by decide +kernel
theorem dX6_entitleOn_78 : decode cX6_entitleOn 78 = .ok (.aload_n 0, 1) := by decide +kernel
theorem dX6_entitleOn_79 : decode cX6_entitleOn 79 = .ok (.bipush 69, 2) := by decide +kernel
theorem dX6_entitleOn_81 : decode cX6_entitleOn 81 = .ok (.aload_n 0, 1) := by decide +kernel
theorem dX6_entitleOn_82 : decode cX6_entitleOn 82 = .ok (.sipush 1075, 3) := by decide +kernel
theorem dX6_entitleOn_85 : decode cX6_entitleOn 85 = .ok (.iload 6, 2) := by decide +kernel
theorem dX6_entitleOn_87 : decode cX6_entitleOn 87 = .ok (.iadd, 1) := by decide +kernel
theorem dX6_entitleOn_88 : decode cX6_entitleOn 88 = .ok (.iaload, 1) := by decide +kernel
theorem dX6_entitleOn_89 : decode cX6_entitleOn 89 = .ok (.iadd, 1) := by decide +kernel
theorem dX6_entitleOn_90 : decode cX6_entitleOn 90 = .ok (.dup2, 1) := by decide +kernel
theorem dX6_entitleOn_91 : decode cX6_entitleOn 91 = .ok (.iaload, 1) := by decide +kernel
theorem dX6_entitleOn_92 : decode cX6_entitleOn 92 = .ok (.aload_n 0, 1) := by decide +kernel
theorem dX6_entitleOn_93 : decode cX6_entitleOn 93 = .ok (.sipush 595, 3) := by decide +kernel
theorem dX6_entitleOn_96 : decode cX6_entitleOn 96 = .ok (.iload 6, 2) := by decide +kernel
theorem dX6_entitleOn_98 : decode cX6_entitleOn 98 = .ok (.iadd, 1) := by decide +kernel
theorem dX6_entitleOn_99 : decode cX6_entitleOn 99 = .ok (.iaload, 1) := by decide +kernel
theorem dX6_entitleOn_100 : decode cX6_entitleOn 100 = .ok (.iadd, 1) := by decide +kernel
theorem dX6_entitleOn_101 : decode cX6_entitleOn 101 = .ok (.iastore, 1) := by decide +kernel
theorem dX6_entitleOn_102 : decode cX6_entitleOn 102 = .ok (.aload_n 0, 1) := by decide +kernel
theorem dX6_entitleOn_103 : decode cX6_entitleOn 103 = .ok (.bipush 115, 2) := by decide +kernel
theorem dX6_entitleOn_105 : decode cX6_entitleOn 105 = .ok (.iload 6, 2) := by decide +kernel
theorem dX6_entitleOn_107 : decode cX6_entitleOn 107 = .ok (.iadd, 1) := by decide +kernel
theorem dX6_entitleOn_108 : decode cX6_entitleOn 108 = .ok (.iconst 3, 1) := by decide +kernel
theorem dX6_entitleOn_109 : decode cX6_entitleOn 109 = .ok (.iastore, 1) := by decide +kernel
theorem dX6_entitleOn_110 : decode cX6_entitleOn 110 = .ok (.goto 59, 3) := by decide +kernel
theorem dX6_entitleOn_113 : decode cX6_entitleOn 113 = .ok (.aload_n 0, 1) := by decide +kernel
theorem dX6_entitleOn_114 : decode cX6_entitleOn 114 = .ok (.bipush 115, 2) := by decide +kernel
theorem dX6_entitleOn_116 : decode cX6_entitleOn 116 = .ok (.iload 6, 2) := by decide +kernel
theorem dX6_entitleOn_118 : decode cX6_entitleOn 118 = .ok (.iadd, 1) := by decide +kernel
theorem dX6_entitleOn_119 : decode cX6_entitleOn 119 = .ok (.iaload, 1) := by decide +kernel
theorem dX6_entitleOn_120 : decode cX6_entitleOn 120 = .ok (.iconst 3, 1) := by decide +kernel
theorem dX6_entitleOn_121 : decode cX6_entitleOn 121 = .ok (.if_icmp .ne 48, 3) := by decide +kernel
theorem dX6_entitleOn_124 : decode cX6_entitleOn 124 = .ok (.iload 7, 2) := by decide +kernel
theorem dX6_entitleOn_126 : decode cX6_entitleOn 126 = .ok (.ifCond .ne 43, 3) := by decide +kernel
theorem dX6_entitleOn_129 : decode cX6_entitleOn 129 = .ok (.aload_n 0, 1) := by decide +kernel
theorem dX6_entitleOn_130 : decode cX6_entitleOn 130 = .ok (.bipush 69, 2) := by decide +kernel
theorem dX6_entitleOn_132 : decode cX6_entitleOn 132 = .ok (.iload_n 1, 1) := by decide +kernel
theorem dX6_entitleOn_133 : decode cX6_entitleOn 133 = .ok (.iadd, 1) := by decide +kernel
theorem dX6_entitleOn_134 : decode cX6_entitleOn 134 = .ok (.dup2, 1) := by decide +kernel
theorem dX6_entitleOn_135 : decode cX6_entitleOn 135 = .ok (.iaload, 1) := by decide +kernel
theorem dX6_entitleOn_136 : decode cX6_entitleOn 136 = .ok (.aload_n 0, 1) := by decide +kernel
theorem dX6_entitleOn_137 : decode cX6_entitleOn 137 = .ok (.iconst 2, 1) := by decide +kernel
theorem dX6_entitleOn_138 : decode cX6_entitleOn 138 = .ok (.iaload, 1) := by decide +kernel
theorem dX6_entitleOn_139 : decode cX6_entitleOn 139 = .ok (.isub, 1) := by decide +kernel
theorem dX6_entitleOn_140 : decode cX6_entitleOn 140 = .ok (.iastore, 1) := by decide +kernel
theorem dX6_entitleOn_141 : decode cX6_entitleOn 141 = .ok (.aload_n 0, 1) := by decide +kernel
theorem dX6_entitleOn_142 : decode cX6_entitleOn 142 = .ok (.bipush 115, 2) := by decide +kernel
theorem dX6_entitleOn_144 : decode cX6_entitleOn 144 = .ok (.iload 6, 2) := by decide +kernel
theorem dX6_entitleOn_146 : decode cX6_entitleOn 146 = .ok (.iadd, 1) := by decide +kernel
theorem dX6_entitleOn_147 : decode cX6_entitleOn 147 = .ok (.iconst 2, 1) := by decide +kernel
theorem dX6_entitleOn_148 : decode cX6_entitleOn 148 = .ok (.iastore, 1) := by decide +kernel
theorem dX6_entitleOn_149 : decode cX6_entitleOn 149 = .ok (.aload_n 0, 1) := by decide +kernel
theorem dX6_entitleOn_150 : decode cX6_entitleOn 150 = .ok (.sipush 595, 3) := by decide +kernel
theorem dX6_entitleOn_153 : decode cX6_entitleOn 153 = .ok (.iload 6, 2) := by decide +kernel
theorem dX6_entitleOn_155 : decode cX6_entitleOn 155 = .ok (.iadd, 1) := by decide +kernel
theorem dX6_entitleOn_156 : decode cX6_entitleOn 156 = .ok (.aload_n 0, 1) := by decide +kernel
theorem dX6_entitleOn_157 : decode cX6_entitleOn 157 = .ok (.iconst 2, 1) := by decide +kernel
theorem dX6_entitleOn_158 : decode cX6_entitleOn 158 = .ok (.iaload, 1) := by decide +kernel
theorem dX6_entitleOn_159 : decode cX6_entitleOn 159 = .ok (.iastore, 1) := by decide +kernel
theorem dX6_entitleOn_160 : decode cX6_entitleOn 160 = .ok (.aload_n 0, 1) := by decide +kernel
theorem dX6_entitleOn_161 : decode cX6_entitleOn 161 = .ok (.sipush 1075, 3) := by decide +kernel
theorem dX6_entitleOn_164 : decode cX6_entitleOn 164 = .ok (.iload 6, 2) := by decide +kernel
theorem dX6_entitleOn_166 : decode cX6_entitleOn 166 = .ok (.iadd, 1) := by decide +kernel
theorem dX6_entitleOn_167 : decode cX6_entitleOn 167 = .ok (.iload_n 1, 1) := by decide +kernel
theorem dX6_entitleOn_168 : decode cX6_entitleOn 168 = .ok (.iastore, 1) := by decide +kernel
theorem dX6_entitleOn_169 : decode cX6_entitleOn 169 = .ok (.iinc 5 1, 3) := by decide +kernel
theorem dX6_entitleOn_172 : decode cX6_entitleOn 172 = .ok (.goto (-135), 3) := by decide +kernel
theorem dX6_entitleOn_175 : decode cX6_entitleOn 175 = .ok (.aload_n 0, 1) := by decide +kernel
theorem dX6_entitleOn_176 : decode cX6_entitleOn 176 = .ok (.bipush 69, 2) := by decide +kernel
theorem dX6_entitleOn_178 : decode cX6_entitleOn 178 = .ok (.aload_n 0, 1) := by decide +kernel
theorem dX6_entitleOn_179 : decode cX6_entitleOn 179 = .ok (.iconst 1, 1) := by decide +kernel
theorem dX6_entitleOn_180 : decode cX6_entitleOn 180 = .ok (.iaload, 1) := by decide +kernel
theorem dX6_entitleOn_181 : decode cX6_entitleOn 181 = .ok (.invokestatic 69, 3) := by decide +kernel
theorem dX6_entitleOn_184 : decode cX6_entitleOn 184 = .ok (.iload 4, 2) := by decide +kernel
theorem dX6_entitleOn_186 : decode cX6_entitleOn 186 = .ok (.isub, 1) := by decide +kernel
theorem dX6_entitleOn_187 : decode cX6_entitleOn 187 = .ok (.ireturn, 1) := by decide +kernel
theorem dX6_comeOn_0 : decode cX6_comeOn 0 = .ok (.aload_n 0, 1) := by decide +kernel
theorem dX6_comeOn_1 : decode cX6_comeOn 1 = .ok (.iconst 1, 1) := by decide +kernel
theorem dX6_comeOn_2 : decode cX6_comeOn 2 = .ok (.iaload, 1) := by decide +kernel
theorem dX6_comeOn_3 : decode cX6_comeOn 3 = .ok (.istore_n 3, 1) := by decide +kernel
theorem dX6_comeOn_4 : decode cX6_comeOn 4 = .ok (.aload_n 0, 1) := by decide +kernel
theorem dX6_comeOn_5 : decode cX6_comeOn 5 = .ok (.bipush 45, 2) := by decide +kernel
theorem dX6_comeOn_7 : decode cX6_comeOn 7 = .ok (.iload_n 3, 1) := by decide +kernel
theorem dX6_comeOn_8 : decode cX6_comeOn 8 = .ok (.iadd, 1) := by decide +kernel
theorem dX6_comeOn_9 : decode cX6_comeOn 9 = .ok (.iload_n 1, 1) := by decide +kernel
theorem dX6_comeOn_10 : decode cX6_comeOn 10 = .ok (.iastore, 1) := by decide +kernel
theorem dX6_comeOn_11 : decode cX6_comeOn 11 = .ok (.aload_n 0, 1) := by decide +kernel
theorem dX6_comeOn_12 : decode cX6_comeOn 12 = .ok (.bipush 57, 2) := by decide +kernel
theorem dX6_comeOn_14 : decode cX6_comeOn 14 = .ok (.iload_n 3, 1) := by decide +kernel
theorem dX6_comeOn_15 : decode cX6_comeOn 15 = .ok (.iadd, 1) := by decide +kernel
theorem dX6_comeOn_16 : decode cX6_comeOn 16 = .ok (.iload_n 2, 1) := by decide +kernel
theorem dX6_comeOn_17 : decode cX6_comeOn 17 = .ok (.iastore, 1) := by decide +kernel
theorem dX6_comeOn_18 : decode cX6_comeOn 18 = .ok (.aload_n 0, 1) := by decide +kernel
theorem dX6_comeOn_19 : decode cX6_comeOn 19 = .ok (.bipush 81, 2) := by decide +kernel
theorem dX6_comeOn_21 : decode cX6_comeOn 21 = .ok (.iload_n 3, 1) := by decide +kernel
theorem dX6_comeOn_22 : decode cX6_comeOn 22 = .ok (.iadd, 1) := by decide +kernel
theorem dX6_comeOn_23 : decode cX6_comeOn 23 = .ok (.iconst (-1), 1) := by decide +kernel
theorem dX6_comeOn_24 : decode cX6_comeOn 24 = .ok (.iastore, 1) := by decide +kernel
theorem dX6_comeOn_25 : decode cX6_comeOn 25 = .ok (.aload_n 0, 1) := by decide +kernel
theorem dX6_comeOn_26 : decode cX6_comeOn 26 = .ok (.bipush 93, 2) := by decide +kernel
theorem dX6_comeOn_28 : decode cX6_comeOn 28 = .ok (.iload_n 3, 1) := by decide +kernel
theorem dX6_comeOn_29 : decode cX6_comeOn 29 = .ok (.iadd, 1) := by decide +kernel
theorem dX6_comeOn_30 : decode cX6_comeOn 30 = .ok (.iconst (-1), 1) := by decide +kernel
theorem dX6_comeOn_31 : decode cX6_comeOn 31 = .ok (.iastore, 1) := by decide +kernel
theorem dX6_comeOn_32 : decode cX6_comeOn 32 = .ok (.aload_n 0, 1) := by decide +kernel
theorem dX6_comeOn_33 : decode cX6_comeOn 33 = .ok (.iconst 1, 1) := by decide +kernel
theorem dX6_comeOn_34 : decode cX6_comeOn 34 = .ok (.dup2, 1) := by decide +kernel
theorem dX6_comeOn_35 : decode cX6_comeOn 35 = .ok (.iaload, 1) := by decide +kernel
theorem dX6_comeOn_36 : decode cX6_comeOn 36 = .ok (.iconst 1, 1) := by decide +kernel
theorem dX6_comeOn_37 : decode cX6_comeOn 37 = .ok (.iadd, 1) := by decide +kernel
theorem dX6_comeOn_38 : decode cX6_comeOn 38 = .ok (.iastore, 1) := by decide +kernel
theorem dX6_comeOn_39 : decode cX6_comeOn 39 = .ok (.iload_n 3, 1) := by decide +kernel
theorem dX6_comeOn_40 : decode cX6_comeOn 40 = .ok (.ireturn, 1) := by decide +kernel
set_option maxRecDepth 20000 in
theorem ggX6_orderOn_X6_at : GoodIn wsX6_orderOn wsX6_at := goodIn_r _ [4] (by decide +kernel) (by decide +kernel)
set_option maxRecDepth 20000 in
theorem gX6_orderOn_X6_at : GoodIn wsX6_orderOn (va_wsS RX6 45 yX6_at wsX6_at) := goodIn_app (goodIn_of _ (by decide +kernel)) ggX6_orderOn_X6_at
set_option maxRecDepth 20000 in
theorem ggX6_orderOn_X6_count : GoodIn wsX6_orderOn wsX6_count := goodIn_r _ [7, 1, 2, 3, 4] (by decide +kernel) (by decide +kernel)
set_option maxRecDepth 20000 in
theorem gX6_orderOn_X6_count : GoodIn wsX6_orderOn (va_wsS RX6 49 yX6_count wsX6_count) := goodIn_app (goodIn_of _ (by decide +kernel)) ggX6_orderOn_X6_count
theorem dX6_orderOn_0 : decode cX6_orderOn 0 = .ok (.aload_n 0, 1) := by decide +kernel
theorem dX6_orderOn_1 : decode cX6_orderOn 1 = .ok (.bipush 115, 2) := by decide +kernel
theorem dX6_orderOn_3 : decode cX6_orderOn 3 = .ok (.iload_n 1, 1) := by decide +kernel
theorem dX6_orderOn_4 : decode cX6_orderOn 4 = .ok (.iload_n 2, 1) := by decide +kernel
theorem dX6_orderOn_5 : decode cX6_orderOn 5 = .ok (.invokestatic 45, 3) := by decide +kernel
theorem dX6_orderOn_8 : decode cX6_orderOn 8 = .ok (.iadd, 1) := by decide +kernel
theorem dX6_orderOn_9 : decode cX6_orderOn 9 = .ok (.iload_n 3, 1) := by decide +kernel
theorem dX6_orderOn_10 : decode cX6_orderOn 10 = .ok (.ifCond .eq 7, 3) := by decide +kernel
theorem dX6_orderOn_13 : decode cX6_orderOn 13 = .ok (.iconst 1, 1) := by decide +kernel
theorem dX6_orderOn_14 : decode cX6_orderOn 14 = .ok (.goto 4, 3) := by decide +kernel
theorem dX6_orderOn_17 : decode cX6_orderOn 17 = .ok (.iconst 0, 1) := by decide +kernel
theorem dX6_orderOn_18 : decode cX6_orderOn 18 = .ok (.iastore, 1) := by decide +kernel
theorem dX6_orderOn_19 : decode cX6_orderOn 19 = .ok (.aload_n 0, 1) := by decide +kernel
theorem dX6_orderOn_20 : decode cX6_orderOn 20 = .ok (.iconst (-1), 1) := by decide +kernel
theorem dX6_orderOn_21 : decode cX6_orderOn 21 = .ok (.iload_n 2, 1) := by decide +kernel
theorem dX6_orderOn_22 : decode cX6_orderOn 22 = .ok (.iconst 1, 1) := by decide +kernel
theorem dX6_orderOn_23 : decode cX6_orderOn 23 = .ok (.invokestatic 49, 3) := by decide +kernel
theorem dX6_orderOn_26 : decode cX6_orderOn 26 = .ok (.ireturn, 1) := by decide +kernel
theorem dX6_payOn_0 : decode cX6_payOn 0 = .ok (.aload_n 0, 1) := by decide +kernel
theorem dX6_payOn_1 : decode cX6_payOn 1 = .ok (.bipush 69, 2) := by decide +kernel
theorem dX6_payOn_3 : decode cX6_payOn 3 = .ok (.iload_n 1, 1) := by decide +kernel
theorem dX6_payOn_4 : decode cX6_payOn 4 = .ok (.iadd, 1) := by decide +kernel
theorem dX6_payOn_5 : decode cX6_payOn 5 = .ok (.dup2, 1) := by decide +kernel
theorem dX6_payOn_6 : decode cX6_payOn 6 = .ok (.iaload, 1) := by decide +kernel
theorem dX6_payOn_7 : decode cX6_payOn 7 = .ok (.iload_n 2, 1) := by decide +kernel
theorem dX6_payOn_8 : decode cX6_payOn 8 = .ok (.iadd, 1) := by decide +kernel
theorem dX6_payOn_9 : decode cX6_payOn 9 = .ok (.iastore, 1) := by decide +kernel
theorem dX6_payOn_10 : decode cX6_payOn 10 = .ok (.aload_n 0, 1) := by decide +kernel
theorem dX6_payOn_11 : decode cX6_payOn 11 = .ok (.iconst 4, 1) := by decide +kernel
theorem dX6_payOn_12 : decode cX6_payOn 12 = .ok (.dup2, 1) := by decide +kernel
theorem dX6_payOn_13 : decode cX6_payOn 13 = .ok (.iaload, 1) := by decide +kernel
theorem dX6_payOn_14 : decode cX6_payOn 14 = .ok (.iload_n 2, 1) := by decide +kernel
theorem dX6_payOn_15 : decode cX6_payOn 15 = .ok (.iadd, 1) := by decide +kernel
theorem dX6_payOn_16 : decode cX6_payOn 16 = .ok (.iastore, 1) := by decide +kernel
theorem dX6_payOn_17 : decode cX6_payOn 17 = .ok (.aload_n 0, 1) := by decide +kernel
theorem dX6_payOn_18 : decode cX6_payOn 18 = .ok (.bipush 69, 2) := by decide +kernel
theorem dX6_payOn_20 : decode cX6_payOn 20 = .ok (.iload_n 1, 1) := by decide +kernel
theorem dX6_payOn_21 : decode cX6_payOn 21 = .ok (.iadd, 1) := by decide +kernel
theorem dX6_payOn_22 : decode cX6_payOn 22 = .ok (.iaload, 1) := by decide +kernel
theorem dX6_payOn_23 : decode cX6_payOn 23 = .ok (.ireturn, 1) := by decide +kernel
theorem dX6_debt_0 : decode cX6_debt 0 = .ok (.iconst 0, 1) := by decide +kernel
theorem dX6_debt_1 : decode cX6_debt 1 = .ok (.istore_n 2, 1) := by decide +kernel
theorem dX6_debt_2 : decode cX6_debt 2 = .ok (.iconst 0, 1) := by decide +kernel
theorem dX6_debt_3 : decode cX6_debt 3 = .ok (.istore_n 3, 1) := by decide +kernel
theorem dX6_debt_4 : decode cX6_debt 4 = .ok (.iload_n 3, 1) := by decide +kernel
theorem dX6_debt_5 : decode cX6_debt 5 = .ok (.aload_n 0, 1) := by decide +kernel
theorem dX6_debt_6 : decode cX6_debt 6 = .ok (.iconst 1, 1) := by decide +kernel
theorem dX6_debt_7 : decode cX6_debt 7 = .ok (.iaload, 1) := by decide +kernel
theorem dX6_debt_8 : decode cX6_debt 8 = .ok (.if_icmp .ge 42, 3) := by decide +kernel
theorem dX6_debt_11 : decode cX6_debt 11 = .ok (.iload_n 2, 1) := by decide +kernel
theorem dX6_debt_12 : decode cX6_debt 12 = .ok (.aload_n 0, 1) := by decide +kernel
theorem dX6_debt_13 : decode cX6_debt 13 = .ok (.bipush 45, 2) := by decide +kernel
theorem dX6_debt_15 : decode cX6_debt 15 = .ok (.iload_n 3, 1) := by decide +kernel
theorem dX6_debt_16 : decode cX6_debt 16 = .ok (.iadd, 1) := by decide +kernel
theorem dX6_debt_17 : decode cX6_debt 17 = .ok (.iaload, 1) := by decide +kernel
theorem dX6_debt_18 : decode cX6_debt 18 = .ok (.iload_n 1, 1) := by decide +kernel
theorem dX6_debt_19 : decode cX6_debt 19 = .ok (.if_icmp .ne 22, 3) := by decide +kernel
theorem dX6_debt_22 : decode cX6_debt 22 = .ok (.aload_n 0, 1) := by decide +kernel
theorem dX6_debt_23 : decode cX6_debt 23 = .ok (.bipush 69, 2) := by decide +kernel
theorem dX6_debt_25 : decode cX6_debt 25 = .ok (.iload_n 3, 1) := by decide +kernel
theorem dX6_debt_26 : decode cX6_debt 26 = .ok (.iadd, 1) := by decide +kernel
theorem dX6_debt_27 : decode cX6_debt 27 = .ok (.iaload, 1) := by decide +kernel
theorem dX6_debt_28 : decode cX6_debt 28 = .ok (.ifCond .ge 13, 3) := by decide +kernel
theorem dX6_debt_31 : decode cX6_debt 31 = .ok (.aload_n 0, 1) := by decide +kernel
theorem dX6_debt_32 : decode cX6_debt 32 = .ok (.bipush 69, 2) := by decide +kernel
theorem dX6_debt_34 : decode cX6_debt 34 = .ok (.iload_n 3, 1) := by decide +kernel
theorem dX6_debt_35 : decode cX6_debt 35 = .ok (.iadd, 1) := by decide +kernel
theorem dX6_debt_36 : decode cX6_debt 36 = .ok (.iaload, 1) := by decide +kernel
theorem dX6_debt_37 : decode cX6_debt 37 = .ok (.ineg, 1) := by decide +kernel
theorem dX6_debt_38 : decode cX6_debt 38 = .ok (.goto 4, 3) := by decide +kernel
theorem dX6_debt_41 : decode cX6_debt 41 = .ok (.iconst 0, 1) := by decide +kernel
theorem dX6_debt_42 : decode cX6_debt 42 = .ok (.iadd, 1) := by decide +kernel
theorem dX6_debt_43 : decode cX6_debt 43 = .ok (.istore_n 2, 1) := by decide +kernel
theorem dX6_debt_44 : decode cX6_debt 44 = .ok (.iinc 3 1, 3) := by decide +kernel
theorem dX6_debt_47 : decode cX6_debt 47 = .ok (.goto (-43), 3) := by decide +kernel
theorem dX6_debt_50 : decode cX6_debt 50 = .ok (.iload_n 2, 1) := by decide +kernel
theorem dX6_debt_51 : decode cX6_debt 51 = .ok (.ireturn, 1) := by decide +kernel
set_option maxRecDepth 20000 in
theorem ggX6_writeOffOn_X6_debt : GoodIn wsX6_writeOffOn wsX6_debt := goodIn_r _ [4] (by decide +kernel) (by decide +kernel)
set_option maxRecDepth 20000 in
theorem gX6_writeOffOn_X6_debt : GoodIn wsX6_writeOffOn (va_wsS RX6 72 yX6_debt wsX6_debt) := goodIn_app (goodIn_of _ (by decide +kernel)) ggX6_writeOffOn_X6_debt
theorem dX6_writeOffOn_0 : decode cX6_writeOffOn 0 = .ok (.aload_n 0, 1) := by decide +kernel
theorem dX6_writeOffOn_1 : decode cX6_writeOffOn 1 = .ok (.iload_n 1, 1) := by decide +kernel
theorem dX6_writeOffOn_2 : decode cX6_writeOffOn 2 = .ok (.invokestatic 72, 3) := by decide +kernel
theorem dX6_writeOffOn_5 : decode cX6_writeOffOn 5 = .ok (.istore_n 2, 1) := by decide +kernel
theorem dX6_writeOffOn_6 : decode cX6_writeOffOn 6 = .ok (.iconst 0, 1) := by decide +kernel
theorem dX6_writeOffOn_7 : decode cX6_writeOffOn 7 = .ok (.istore_n 3, 1) := by decide +kernel
theorem dX6_writeOffOn_8 : decode cX6_writeOffOn 8 = .ok (.iload_n 3, 1) := by decide +kernel
theorem dX6_writeOffOn_9 : decode cX6_writeOffOn 9 = .ok (.aload_n 0, 1) := by decide +kernel
theorem dX6_writeOffOn_10 : decode cX6_writeOffOn 10 = .ok (.iconst 1, 1) := by decide +kernel
theorem dX6_writeOffOn_11 : decode cX6_writeOffOn 11 = .ok (.iaload, 1) := by decide +kernel
theorem dX6_writeOffOn_12 : decode cX6_writeOffOn 12 = .ok (.if_icmp .ge 44, 3) := by decide +kernel
theorem dX6_writeOffOn_15 : decode cX6_writeOffOn 15 = .ok (.aload_n 0, 1) := by decide +kernel
theorem dX6_writeOffOn_16 : decode cX6_writeOffOn 16 = .ok (.bipush 69, 2) := by decide +kernel
theorem dX6_writeOffOn_18 : decode cX6_writeOffOn 18 = .ok (.iload_n 3, 1) := by decide +kernel
theorem dX6_writeOffOn_19 : decode cX6_writeOffOn 19 = .ok (.iadd, 1) := by decide +kernel
theorem dX6_writeOffOn_20 : decode cX6_writeOffOn 20 = .ok (.aload_n 0, 1) := by decide +kernel
theorem dX6_writeOffOn_21 : decode cX6_writeOffOn 21 = .ok (.bipush 45, 2) := by decide +kernel
theorem dX6_writeOffOn_23 : decode cX6_writeOffOn 23 = .ok (.iload_n 3, 1) := by decide +kernel
theorem dX6_writeOffOn_24 : decode cX6_writeOffOn 24 = .ok (.iadd, 1) := by decide +kernel
theorem dX6_writeOffOn_25 : decode cX6_writeOffOn 25 = .ok (.iaload, 1) := by decide +kernel
theorem dX6_writeOffOn_26 : decode cX6_writeOffOn 26 = .ok (.iload_n 1, 1) := by decide +kernel
theorem dX6_writeOffOn_27 : decode cX6_writeOffOn 27 = .ok (.if_icmp .ne 16, 3) := by decide +kernel
theorem dX6_writeOffOn_30 : decode cX6_writeOffOn 30 = .ok (.aload_n 0, 1) := by decide +kernel
theorem dX6_writeOffOn_31 : decode cX6_writeOffOn 31 = .ok (.bipush 69, 2) := by decide +kernel
theorem dX6_writeOffOn_33 : decode cX6_writeOffOn 33 = .ok (.iload_n 3, 1) := by decide +kernel
theorem dX6_writeOffOn_34 : decode cX6_writeOffOn 34 = .ok (.iadd, 1) := by decide +kernel
theorem dX6_writeOffOn_35 : decode cX6_writeOffOn 35 = .ok (.iaload, 1) := by decide +kernel
theorem dX6_writeOffOn_36 : decode cX6_writeOffOn 36 = .ok (.ifCond .ge 7, 3) := by decide +kernel
theorem dX6_writeOffOn_39 : decode cX6_writeOffOn 39 = .ok (.iconst 0, 1) := by decide +kernel
theorem dX6_writeOffOn_40 : decode cX6_writeOffOn 40 = .ok (.goto 9, 3) := by decide +kernel
theorem dX6_writeOffOn_43 : decode cX6_writeOffOn 43 = .ok (.aload_n 0, 1) := by decide +kernel
theorem dX6_writeOffOn_44 : decode cX6_writeOffOn 44 = .ok (.bipush 69, 2) := by decide +kernel
theorem dX6_writeOffOn_46 : decode cX6_writeOffOn 46 = .ok (.iload_n 3, 1) := by decide +kernel
theorem dX6_writeOffOn_47 : decode cX6_writeOffOn 47 = .ok (.iadd, 1) := by decide +kernel
theorem dX6_writeOffOn_48 : decode cX6_writeOffOn 48 = .ok (.iaload, 1) := by decide +kernel
theorem dX6_writeOffOn_49 : decode cX6_writeOffOn 49 = .ok (.iastore, 1) := by decide +kernel
theorem dX6_writeOffOn_50 : decode cX6_writeOffOn 50 = .ok (.iinc 3 1, 3) := by decide +kernel
theorem dX6_writeOffOn_53 : decode cX6_writeOffOn 53 = .ok (.goto (-45), 3) := by decide +kernel
theorem dX6_writeOffOn_56 : decode cX6_writeOffOn 56 = .ok (.aload_n 0, 1) := by decide +kernel
theorem dX6_writeOffOn_57 : decode cX6_writeOffOn 57 = .ok (.bipush 110, 2) := by decide +kernel
theorem dX6_writeOffOn_59 : decode cX6_writeOffOn 59 = .ok (.iload_n 1, 1) := by decide +kernel
theorem dX6_writeOffOn_60 : decode cX6_writeOffOn 60 = .ok (.iadd, 1) := by decide +kernel
theorem dX6_writeOffOn_61 : decode cX6_writeOffOn 61 = .ok (.dup2, 1) := by decide +kernel
theorem dX6_writeOffOn_62 : decode cX6_writeOffOn 62 = .ok (.iaload, 1) := by decide +kernel
theorem dX6_writeOffOn_63 : decode cX6_writeOffOn 63 = .ok (.iload_n 2, 1) := by decide +kernel
theorem dX6_writeOffOn_64 : decode cX6_writeOffOn 64 = .ok (.iadd, 1) := by decide +kernel
theorem dX6_writeOffOn_65 : decode cX6_writeOffOn 65 = .ok (.iastore, 1) := by decide +kernel
theorem dX6_writeOffOn_66 : decode cX6_writeOffOn 66 = .ok (.iload_n 2, 1) := by decide +kernel
theorem dX6_writeOffOn_67 : decode cX6_writeOffOn 67 = .ok (.ireturn, 1) := by decide +kernel
set_option maxRecDepth 20000 in
theorem ggX6_whyNotOrder_X6_isChild : GoodIn wsX6_whyNotOrder wsX6_isChild := goodIn_r _ [4, 5, 6, 3, 7] (by decide +kernel) (by decide +kernel)
set_option maxRecDepth 20000 in
theorem gX6_whyNotOrder_X6_isChild : GoodIn wsX6_whyNotOrder (va_wsS RX6 75 yX6_isChild wsX6_isChild) := goodIn_app (goodIn_of _ (by decide +kernel)) ggX6_whyNotOrder_X6_isChild
set_option maxRecDepth 20000 in
theorem ggX6_whyNotOrder_X6_isDay : GoodIn wsX6_whyNotOrder wsX6_isDay := goodIn_r _ [10, 11, 5, 6, 3, 7] (by decide +kernel) (by decide +kernel)
set_option maxRecDepth 20000 in
theorem gX6_whyNotOrder_X6_isDay : GoodIn wsX6_whyNotOrder (va_wsS RX6 79 yX6_isDay wsX6_isDay) := goodIn_app (goodIn_of _ (by decide +kernel)) ggX6_whyNotOrder_X6_isDay
theorem dX6_whyNotOrder_0 : decode cX6_whyNotOrder 0 = .ok (.aload_n 0, 1) := by decide +kernel
theorem dX6_whyNotOrder_1 : decode cX6_whyNotOrder 1 = .ok (.iload_n 1, 1) := by decide +kernel
theorem dX6_whyNotOrder_2 : decode cX6_whyNotOrder 2 = .ok (.invokestatic 75, 3) := by decide +kernel
theorem dX6_whyNotOrder_5 : decode cX6_whyNotOrder 5 = .ok (.ifCond .eq 10, 3) := by decide +kernel
theorem dX6_whyNotOrder_8 : decode cX6_whyNotOrder 8 = .ok (.iload_n 2, 1) := by decide +kernel
theorem dX6_whyNotOrder_9 : decode cX6_whyNotOrder 9 = .ok (.invokestatic 79, 3) := by decide +kernel
theorem dX6_whyNotOrder_12 : decode cX6_whyNotOrder 12 = .ok (.ifCond .ne 7, 3) := by decide +kernel
theorem dX6_whyNotOrder_15 : decode cX6_whyNotOrder 15 = .ok (.iconst 1, 1) := by decide +kernel
theorem dX6_whyNotOrder_16 : decode cX6_whyNotOrder 16 = .ok (.goto 15, 3) := by decide +kernel
theorem dX6_whyNotOrder_19 : decode cX6_whyNotOrder 19 = .ok (.iload_n 2, 1) := by decide +kernel
theorem dX6_whyNotOrder_20 : decode cX6_whyNotOrder 20 = .ok (.aload_n 0, 1) := by decide +kernel
theorem dX6_whyNotOrder_21 : decode cX6_whyNotOrder 21 = .ok (.iconst 0, 1) := by decide +kernel
theorem dX6_whyNotOrder_22 : decode cX6_whyNotOrder 22 = .ok (.iaload, 1) := by decide +kernel
theorem dX6_whyNotOrder_23 : decode cX6_whyNotOrder 23 = .ok (.if_icmp .ge 7, 3) := by decide +kernel
theorem dX6_whyNotOrder_26 : decode cX6_whyNotOrder 26 = .ok (.iconst 2, 1) := by decide +kernel
theorem dX6_whyNotOrder_27 : decode cX6_whyNotOrder 27 = .ok (.goto 4, 3) := by decide +kernel
theorem dX6_whyNotOrder_30 : decode cX6_whyNotOrder 30 = .ok (.iconst 0, 1) := by decide +kernel
theorem dX6_whyNotOrder_31 : decode cX6_whyNotOrder 31 = .ok (.ireturn, 1) := by decide +kernel
set_option maxRecDepth 20000 in
theorem ggX6_whyNotPay_X6_isChild : GoodIn wsX6_whyNotPay wsX6_isChild := goodIn_r _ [6, 7, 8, 5, 9] (by decide +kernel) (by decide +kernel)
set_option maxRecDepth 20000 in
theorem gX6_whyNotPay_X6_isChild : GoodIn wsX6_whyNotPay (va_wsS RX6 75 yX6_isChild wsX6_isChild) := goodIn_app (goodIn_of _ (by decide +kernel)) ggX6_whyNotPay_X6_isChild
set_option maxRecDepth 20000 in
theorem ggX6_whyNotPay_X6_in : GoodIn wsX6_whyNotPay wsX6_in := goodIn_r _ [9] (by decide +kernel) (by decide +kernel)
set_option maxRecDepth 20000 in
theorem gX6_whyNotPay_X6_in : GoodIn wsX6_whyNotPay (va_wsS RX6 37 yX6_in wsX6_in) := goodIn_app (goodIn_of _ (by decide +kernel)) ggX6_whyNotPay_X6_in
theorem dX6_whyNotPay_0 : decode cX6_whyNotPay 0 = .ok (.aload_n 0, 1) := by decide +kernel
theorem dX6_whyNotPay_1 : decode cX6_whyNotPay 1 = .ok (.iload_n 1, 1) := by decide +kernel
theorem dX6_whyNotPay_2 : decode cX6_whyNotPay 2 = .ok (.invokestatic 75, 3) := by decide +kernel
theorem dX6_whyNotPay_5 : decode cX6_whyNotPay 5 = .ok (.ifCond .ne 7, 3) := by decide +kernel
theorem dX6_whyNotPay_8 : decode cX6_whyNotPay 8 = .ok (.iconst 1, 1) := by decide +kernel
theorem dX6_whyNotPay_9 : decode cX6_whyNotPay 9 = .ok (.goto 45, 3) := by decide +kernel
theorem dX6_whyNotPay_12 : decode cX6_whyNotPay 12 = .ok (.iload_n 2, 1) := by decide +kernel
theorem dX6_whyNotPay_13 : decode cX6_whyNotPay 13 = .ok (.ifCond .eq 17, 3) := by decide +kernel
theorem dX6_whyNotPay_16 : decode cX6_whyNotPay 16 = .ok (.iload_n 2, 1) := by decide +kernel
theorem dX6_whyNotPay_17 : decode cX6_whyNotPay 17 = .ok (.i2l, 1) := by decide +kernel
theorem dX6_whyNotPay_18 : decode cX6_whyNotPay 18 = .ok (.ldc2_w 83, 3) := by decide +kernel
theorem dX6_whyNotPay_21 : decode cX6_whyNotPay 21 = .ok (.ldc2_w 85, 3) := by decide +kernel
theorem dX6_whyNotPay_24 : decode cX6_whyNotPay 24 = .ok (.invokestatic 37, 3) := by decide +kernel
theorem dX6_whyNotPay_27 : decode cX6_whyNotPay 27 = .ok (.ifCond .ne 7, 3) := by decide +kernel
theorem dX6_whyNotPay_30 : decode cX6_whyNotPay 30 = .ok (.iconst 2, 1) := by decide +kernel
theorem dX6_whyNotPay_31 : decode cX6_whyNotPay 31 = .ok (.goto 23, 3) := by decide +kernel
theorem dX6_whyNotPay_34 : decode cX6_whyNotPay 34 = .ok (.iload_n 2, 1) := by decide +kernel
theorem dX6_whyNotPay_35 : decode cX6_whyNotPay 35 = .ok (.ifCond .ge 18, 3) := by decide +kernel
theorem dX6_whyNotPay_38 : decode cX6_whyNotPay 38 = .ok (.aload_n 0, 1) := by decide +kernel
theorem dX6_whyNotPay_39 : decode cX6_whyNotPay 39 = .ok (.bipush 69, 2) := by decide +kernel
theorem dX6_whyNotPay_41 : decode cX6_whyNotPay 41 = .ok (.iload_n 1, 1) := by decide +kernel
theorem dX6_whyNotPay_42 : decode cX6_whyNotPay 42 = .ok (.iadd, 1) := by decide +kernel
theorem dX6_whyNotPay_43 : decode cX6_whyNotPay 43 = .ok (.iaload, 1) := by decide +kernel
theorem dX6_whyNotPay_44 : decode cX6_whyNotPay 44 = .ok (.iload_n 2, 1) := by decide +kernel
theorem dX6_whyNotPay_45 : decode cX6_whyNotPay 45 = .ok (.iadd, 1) := by decide +kernel
theorem dX6_whyNotPay_46 : decode cX6_whyNotPay 46 = .ok (.ifCond .ge 7, 3) := by decide +kernel
theorem dX6_whyNotPay_49 : decode cX6_whyNotPay 49 = .ok (.iconst 3, 1) := by decide +kernel
theorem dX6_whyNotPay_50 : decode cX6_whyNotPay 50 = .ok (.goto 4, 3) := by decide +kernel
theorem dX6_whyNotPay_53 : decode cX6_whyNotPay 53 = .ok (.iconst 0, 1) := by decide +kernel
theorem dX6_whyNotPay_54 : decode cX6_whyNotPay 54 = .ok (.ireturn, 1) := by decide +kernel
set_option maxRecDepth 20000 in
theorem ggX6_whyNotEntitle_X6_isChild : GoodIn wsX6_whyNotEntitle wsX6_isChild := goodIn_r _ [5, 6, 7, 4, 8] (by decide +kernel) (by decide +kernel)
set_option maxRecDepth 20000 in
theorem gX6_whyNotEntitle_X6_isChild : GoodIn wsX6_whyNotEntitle (va_wsS RX6 75 yX6_isChild wsX6_isChild) := goodIn_app (goodIn_of _ (by decide +kernel)) ggX6_whyNotEntitle_X6_isChild
set_option maxRecDepth 20000 in
theorem ggX6_whyNotEntitle_X6_isDay : GoodIn wsX6_whyNotEntitle wsX6_isDay := goodIn_r _ [11, 1, 6, 7, 4, 8] (by decide +kernel) (by decide +kernel)
set_option maxRecDepth 20000 in
theorem gX6_whyNotEntitle_X6_isDay : GoodIn wsX6_whyNotEntitle (va_wsS RX6 79 yX6_isDay wsX6_isDay) := goodIn_app (goodIn_of _ (by decide +kernel)) ggX6_whyNotEntitle_X6_isDay
set_option maxRecDepth 20000 in
theorem ggX6_whyNotEntitle_X6_in : GoodIn wsX6_whyNotEntitle wsX6_in := goodIn_r _ [8] (by decide +kernel) (by decide +kernel)
set_option maxRecDepth 20000 in
theorem gX6_whyNotEntitle_X6_in : GoodIn wsX6_whyNotEntitle (va_wsS RX6 37 yX6_in wsX6_in) := goodIn_app (goodIn_of _ (by decide +kernel)) ggX6_whyNotEntitle_X6_in
theorem dX6_whyNotEntitle_0 : decode cX6_whyNotEntitle 0 = .ok (.aload_n 0, 1) := by decide +kernel
theorem dX6_whyNotEntitle_1 : decode cX6_whyNotEntitle 1 = .ok (.iload_n 1, 1) := by decide +kernel
theorem dX6_whyNotEntitle_2 : decode cX6_whyNotEntitle 2 = .ok (.invokestatic 75, 3) := by decide +kernel
theorem dX6_whyNotEntitle_5 : decode cX6_whyNotEntitle 5 = .ok (.ifCond .eq 10, 3) := by decide +kernel
theorem dX6_whyNotEntitle_8 : decode cX6_whyNotEntitle 8 = .ok (.iload_n 2, 1) := by decide +kernel
theorem dX6_whyNotEntitle_9 : decode cX6_whyNotEntitle 9 = .ok (.invokestatic 79, 3) := by decide +kernel
theorem dX6_whyNotEntitle_12 : decode cX6_whyNotEntitle 12 = .ok (.ifCond .ne 7, 3) := by decide +kernel
theorem dX6_whyNotEntitle_15 : decode cX6_whyNotEntitle 15 = .ok (.iconst 1, 1) := by decide +kernel
theorem dX6_whyNotEntitle_16 : decode cX6_whyNotEntitle 16 = .ok (.goto 26, 3) := by decide +kernel
theorem dX6_whyNotEntitle_19 : decode cX6_whyNotEntitle 19 = .ok (.iload_n 3, 1) := by decide +kernel
theorem dX6_whyNotEntitle_20 : decode cX6_whyNotEntitle 20 = .ok (.iconst (-1), 1) := by decide +kernel
theorem dX6_whyNotEntitle_21 : decode cX6_whyNotEntitle 21 = .ok (.if_icmp .eq 16, 3) := by decide +kernel
theorem dX6_whyNotEntitle_24 : decode cX6_whyNotEntitle 24 = .ok (.iload_n 3, 1) := by decide +kernel
theorem dX6_whyNotEntitle_25 : decode cX6_whyNotEntitle 25 = .ok (.i2l, 1) := by decide +kernel
theorem dX6_whyNotEntitle_26 : decode cX6_whyNotEntitle 26 = .ok (.iload_n 2, 1) := by decide +kernel
theorem dX6_whyNotEntitle_27 : decode cX6_whyNotEntitle 27 = .ok (.i2l, 1) := by decide +kernel
theorem dX6_whyNotEntitle_28 : decode cX6_whyNotEntitle 28 = .ok (.ldc2_w 43, 3) := by decide +kernel
theorem dX6_whyNotEntitle_31 : decode cX6_whyNotEntitle 31 = .ok (.invokestatic 37, 3) := by decide +kernel
theorem dX6_whyNotEntitle_34 : decode cX6_whyNotEntitle 34 = .ok (.ifCond .eq 7, 3) := by decide +kernel
theorem dX6_whyNotEntitle_37 : decode cX6_whyNotEntitle 37 = .ok (.iconst 0, 1) := by decide +kernel
theorem dX6_whyNotEntitle_38 : decode cX6_whyNotEntitle 38 = .ok (.goto 4, 3) := by decide +kernel
theorem dX6_whyNotEntitle_41 : decode cX6_whyNotEntitle 41 = .ok (.iconst 2, 1) := by decide +kernel
theorem dX6_whyNotEntitle_42 : decode cX6_whyNotEntitle 42 = .ok (.ireturn, 1) := by decide +kernel
set_option maxRecDepth 20000 in
theorem ggX6_canGoBy_X6_in : GoodIn wsX6_canGoBy wsX6_in := goodIn_r _ [4] (by decide +kernel) (by decide +kernel)
set_option maxRecDepth 20000 in
theorem gX6_canGoBy_X6_in : GoodIn wsX6_canGoBy (va_wsS RX6 37 yX6_in wsX6_in) := goodIn_app (goodIn_of _ (by decide +kernel)) ggX6_canGoBy_X6_in
theorem dX6_canGoBy_0 : decode cX6_canGoBy 0 = .ok (.iload_n 1, 1) := by decide +kernel
theorem dX6_canGoBy_1 : decode cX6_canGoBy 1 = .ok (.i2l, 1) := by decide +kernel
theorem dX6_canGoBy_2 : decode cX6_canGoBy 2 = .ok (.lconst 1, 1) := by decide +kernel
theorem dX6_canGoBy_3 : decode cX6_canGoBy 3 = .ok (.bipush 40, 2) := by decide +kernel
theorem dX6_canGoBy_5 : decode cX6_canGoBy 5 = .ok (.aload_n 0, 1) := by decide +kernel
theorem dX6_canGoBy_6 : decode cX6_canGoBy 6 = .ok (.iconst 0, 1) := by decide +kernel
theorem dX6_canGoBy_7 : decode cX6_canGoBy 7 = .ok (.iaload, 1) := by decide +kernel
theorem dX6_canGoBy_8 : decode cX6_canGoBy 8 = .ok (.isub, 1) := by decide +kernel
theorem dX6_canGoBy_9 : decode cX6_canGoBy 9 = .ok (.i2l, 1) := by decide +kernel
theorem dX6_canGoBy_10 : decode cX6_canGoBy 10 = .ok (.invokestatic 37, 3) := by decide +kernel
theorem dX6_canGoBy_13 : decode cX6_canGoBy 13 = .ok (.ireturn, 1) := by decide +kernel
set_option maxRecDepth 20000 in
theorem ggX6_append_X6_in : GoodIn wsX6_append wsX6_in := goodIn_r _ [7] (by decide +kernel) (by decide +kernel)
set_option maxRecDepth 20000 in
theorem gX6_append_X6_in : GoodIn wsX6_append (va_wsS RX6 37 yX6_in wsX6_in) := goodIn_app (goodIn_of _ (by decide +kernel)) ggX6_append_X6_in
set_option maxRecDepth 20000 in
theorem ggX6_append_X6_refused : GoodIn wsX6_append wsX6_refused := goodIn_r _ [11, 12, 13, 14, 15, 16, 17, 18, 19, 20, 21, 22, 23] (by decide +kernel) (by decide +kernel)
set_option maxRecDepth 20000 in
theorem gX6_append_X6_refused : GoodIn wsX6_append (wsV RX6 92 RX6 yX6_refused wsX6_refused) := goodIn_app (goodIn_of _ (by decide +kernel)) ggX6_append_X6_refused
theorem dX6_append_0 : decode cX6_append 0 = .ok (.aload_n 0, 1) := by decide +kernel
theorem dX6_append_1 : decode cX6_append 1 = .ok (.iload_n 1, 1) := by decide +kernel
theorem dX6_append_2 : decode cX6_append 2 = .ok (.i2l, 1) := by decide +kernel
theorem dX6_append_3 : decode cX6_append 3 = .ok (.lconst 0, 1) := by decide +kernel
theorem dX6_append_4 : decode cX6_append 4 = .ok (.ldc2_w 87, 3) := by decide +kernel
theorem dX6_append_7 : decode cX6_append 7 = .ok (.invokestatic 37, 3) := by decide +kernel
theorem dX6_append_10 : decode cX6_append 10 = .ok (.ifCond .ne 7, 3) := by decide +kernel
theorem dX6_append_13 : decode cX6_append 13 = .ok (.iconst 1, 1) := by decide +kernel
theorem dX6_append_14 : decode cX6_append 14 = .ok (.goto 17, 3) := by decide +kernel
theorem dX6_append_17 : decode cX6_append 17 = .ok (.aload_n 0, 1) := by decide +kernel
theorem dX6_append_18 : decode cX6_append 18 = .ok (.getfield 89, 3) := by decide +kernel
theorem dX6_append_21 : decode cX6_append 21 = .ok (.bipush 120, 2) := by decide +kernel
theorem dX6_append_23 : decode cX6_append 23 = .ok (.if_icmp .ne 7, 3) := by decide +kernel
theorem dX6_append_26 : decode cX6_append 26 = .ok (.iconst 2, 1) := by decide +kernel
theorem dX6_append_27 : decode cX6_append 27 = .ok (.goto 4, 3) := by decide +kernel
theorem dX6_append_30 : decode cX6_append 30 = .ok (.iconst 0, 1) := by decide +kernel
theorem dX6_append_31 : decode cX6_append 31 = .ok (.invokevirtual 92, 3) := by decide +kernel
theorem dX6_append_34 : decode cX6_append 34 = .ok (.ifCond .eq 5, 3) := by decide +kernel
theorem dX6_append_37 : decode cX6_append 37 = .ok (.iconst 0, 1) := by decide +kernel
theorem dX6_append_38 : decode cX6_append 38 = .ok (.ireturn, 1) := by decide +kernel
theorem dX6_append_39 : decode cX6_append 39 = .ok (.aload_n 0, 1) := by decide +kernel
theorem dX6_append_40 : decode cX6_append 40 = .ok (.getfield 7, 3) := by decide +kernel
theorem dX6_append_43 : decode cX6_append 43 = .ok (.aload_n 0, 1) := by decide +kernel
theorem dX6_append_44 : decode cX6_append 44 = .ok (.getfield 89, 3) := by decide +kernel
theorem dX6_append_47 : decode cX6_append 47 = .ok (.iload_n 1, 1) := by decide +kernel
theorem dX6_append_48 : decode cX6_append 48 = .ok (.iastore, 1) := by decide +kernel
theorem dX6_append_49 : decode cX6_append 49 = .ok (.aload_n 0, 1) := by decide +kernel
theorem dX6_append_50 : decode cX6_append 50 = .ok (.dup, 1) := by decide +kernel
theorem dX6_append_51 : decode cX6_append 51 = .ok (.getfield 89, 3) := by decide +kernel
theorem dX6_append_54 : decode cX6_append 54 = .ok (.iconst 1, 1) := by decide +kernel
theorem dX6_append_55 : decode cX6_append 55 = .ok (.iadd, 1) := by decide +kernel
theorem dX6_append_56 : decode cX6_append 56 = .ok (.putfield 89, 3) := by decide +kernel
theorem dX6_append_59 : decode cX6_append 59 = .ok (.aload_n 0, 1) := by decide +kernel
theorem dX6_append_60 : decode cX6_append 60 = .ok (.getfield 89, 3) := by decide +kernel
theorem dX6_append_63 : decode cX6_append 63 = .ok (.ireturn, 1) := by decide +kernel
theorem dX6_clearText_0 : decode cX6_clearText 0 = .ok (.aload_n 0, 1) := by decide +kernel
theorem dX6_clearText_1 : decode cX6_clearText 1 = .ok (.iconst 0, 1) := by decide +kernel
theorem dX6_clearText_2 : decode cX6_clearText 2 = .ok (.putfield 33, 3) := by decide +kernel
theorem dX6_clearText_5 : decode cX6_clearText 5 = .ok (.aload_n 0, 1) := by decide +kernel
theorem dX6_clearText_6 : decode cX6_clearText 6 = .ok (.getfield 89, 3) := by decide +kernel
theorem dX6_clearText_9 : decode cX6_clearText 9 = .ok (.istore_n 1, 1) := by decide +kernel
theorem dX6_clearText_10 : decode cX6_clearText 10 = .ok (.aload_n 0, 1) := by decide +kernel
theorem dX6_clearText_11 : decode cX6_clearText 11 = .ok (.iconst 0, 1) := by decide +kernel
theorem dX6_clearText_12 : decode cX6_clearText 12 = .ok (.putfield 89, 3) := by decide +kernel
theorem dX6_clearText_15 : decode cX6_clearText 15 = .ok (.iload_n 1, 1) := by decide +kernel
theorem dX6_clearText_16 : decode cX6_clearText 16 = .ok (.ireturn, 1) := by decide +kernel
set_option maxRecDepth 20000 in
theorem ggX6_number_X6_in : GoodIn wsX6_number wsX6_in := goodIn_r _ [8] (by decide +kernel) (by decide +kernel)
set_option maxRecDepth 20000 in
theorem gX6_number_X6_in : GoodIn wsX6_number (va_wsS RX6 37 yX6_in wsX6_in) := goodIn_app (goodIn_of _ (by decide +kernel)) ggX6_number_X6_in
theorem dX6_number_0 : decode cX6_number 0 = .ok (.iconst 0, 1) := by decide +kernel
theorem dX6_number_1 : decode cX6_number 1 = .ok (.istore 4, 2) := by decide +kernel
theorem dX6_number_3 : decode cX6_number 3 = .ok (.iconst 1, 1) := by decide +kernel
theorem dX6_number_4 : decode cX6_number 4 = .ok (.istore 5, 2) := by decide +kernel
theorem dX6_number_6 : decode cX6_number 6 = .ok (.iconst 1, 1) := by decide +kernel
theorem dX6_number_7 : decode cX6_number 7 = .ok (.istore 6, 2) := by decide +kernel
theorem dX6_number_9 : decode cX6_number 9 = .ok (.iload 6, 2) := by decide +kernel
theorem dX6_number_11 : decode cX6_number 11 = .ok (.iload_n 1, 1) := by decide +kernel
theorem dX6_number_12 : decode cX6_number 12 = .ok (.if_icmp .ge 16, 3) := by decide +kernel
theorem dX6_number_15 : decode cX6_number 15 = .ok (.iload 5, 2) := by decide +kernel
theorem dX6_number_17 : decode cX6_number 17 = .ok (.bipush 10, 2) := by decide +kernel
theorem dX6_number_19 : decode cX6_number 19 = .ok (.imul, 1) := by decide +kernel
theorem dX6_number_20 : decode cX6_number 20 = .ok (.istore 5, 2) := by decide +kernel
theorem dX6_number_22 : decode cX6_number 22 = .ok (.iinc 6 1, 3) := by decide +kernel
theorem dX6_number_25 : decode cX6_number 25 = .ok (.goto (-16), 3) := by decide +kernel
theorem dX6_number_28 : decode cX6_number 28 = .ok (.iload 5, 2) := by decide +kernel
