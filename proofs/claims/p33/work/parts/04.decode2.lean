theorem dX4_readNumber_123 : decode cX4_readNumber 123 = .ok (.ireturn, 1) := by decide +kernel
theorem dX4_readNumber_124 : decode cX4_readNumber 124 = .ok (.aload_n 0, 1) := by decide +kernel
theorem dX4_readNumber_125 : decode cX4_readNumber 125 = .ok (.iload_n 1, 1) := by decide +kernel
theorem dX4_readNumber_126 : decode cX4_readNumber 126 = .ok (.iconst 2, 1) := by decide +kernel
theorem dX4_readNumber_127 : decode cX4_readNumber 127 = .ok (.iconst 0, 1) := by decide +kernel
theorem dX4_readNumber_128 : decode cX4_readNumber 128 = .ok (.bipush 39, 2) := by decide +kernel
theorem dX4_readNumber_130 : decode cX4_readNumber 130 = .ok (.invokevirtual 76, 3) := by decide +kernel
theorem dX4_readNumber_133 : decode cX4_readNumber 133 = .ok (.ireturn, 1) := by decide +kernel
theorem dX4_readNumber_134 : decode cX4_readNumber 134 = .ok (.aload_n 0, 1) := by decide +kernel
theorem dX4_readNumber_135 : decode cX4_readNumber 135 = .ok (.iload_n 1, 1) := by decide +kernel
theorem dX4_readNumber_136 : decode cX4_readNumber 136 = .ok (.iconst 2, 1) := by decide +kernel
theorem dX4_readNumber_137 : decode cX4_readNumber 137 = .ok (.iconst 0, 1) := by decide +kernel
theorem dX4_readNumber_138 : decode cX4_readNumber 138 = .ok (.bipush 11, 2) := by decide +kernel
theorem dX4_readNumber_140 : decode cX4_readNumber 140 = .ok (.invokevirtual 76, 3) := by decide +kernel
theorem dX4_readNumber_143 : decode cX4_readNumber 143 = .ok (.ireturn, 1) := by decide +kernel
theorem dX4_readNumber_144 : decode cX4_readNumber 144 = .ok (.aload_n 0, 1) := by decide +kernel
theorem dX4_readNumber_145 : decode cX4_readNumber 145 = .ok (.iload_n 1, 1) := by decide +kernel
theorem dX4_readNumber_146 : decode cX4_readNumber 146 = .ok (.iconst 4, 1) := by decide +kernel
theorem dX4_readNumber_147 : decode cX4_readNumber 147 = .ok (.iconst 1, 1) := by decide +kernel
theorem dX4_readNumber_148 : decode cX4_readNumber 148 = .ok (.sipush 9999, 3) := by decide +kernel
theorem dX4_readNumber_151 : decode cX4_readNumber 151 = .ok (.invokevirtual 76, 3) := by decide +kernel
theorem dX4_readNumber_154 : decode cX4_readNumber 154 = .ok (.ireturn, 1) := by decide +kernel
theorem dX4_readNumber_155 : decode cX4_readNumber 155 = .ok (.iconst 0, 1) := by decide +kernel
theorem dX4_readNumber_156 : decode cX4_readNumber 156 = .ok (.ireturn, 1) := by decide +kernel
set_option maxRecDepth 20000 in
theorem ggX4_readRange_X4_isAtEnd : GoodIn wsX4_readRange wsX4_isAtEnd := goodIn_r _ [8, 2, 9, 16, 17, 18, 19, 20] (by decide +kernel) (by decide +kernel)
set_option maxRecDepth 20000 in
theorem gX4_readRange_X4_isAtEnd : GoodIn wsX4_readRange (wsV RX4 27 RX4 yX4_isAtEnd wsX4_isAtEnd) := goodIn_app (goodIn_of _ (by decide +kernel)) ggX4_readRange_X4_isAtEnd
set_option maxRecDepth 20000 in
theorem ggX4_readRange_X4_lowestWith : GoodIn wsX4_readRange wsX4_lowestWith := goodIn_r _ [12] (by decide +kernel) (by decide +kernel)
set_option maxRecDepth 20000 in
theorem gX4_readRange_X4_lowestWith : GoodIn wsX4_readRange (va_wsS RX4 80 yX4_lowestWith wsX4_lowestWith) := goodIn_app (goodIn_of _ (by decide +kernel)) ggX4_readRange_X4_lowestWith
set_option maxRecDepth 20000 in
theorem ggX4_readRange_X4_highestWith : GoodIn wsX4_readRange wsX4_highestWith := goodIn_r _ [15] (by decide +kernel) (by decide +kernel)
set_option maxRecDepth 20000 in
theorem gX4_readRange_X4_highestWith : GoodIn wsX4_readRange (va_wsS RX4 84 yX4_highestWith wsX4_highestWith) := goodIn_app (goodIn_of _ (by decide +kernel)) ggX4_readRange_X4_highestWith
theorem dX4_readRange_0 : decode cX4_readRange 0 = .ok (.iconst 0, 1) := by decide +kernel
theorem dX4_readRange_1 : decode cX4_readRange 1 = .ok (.istore 5, 2) := by decide +kernel
theorem dX4_readRange_3 : decode cX4_readRange 3 = .ok (.iload_n 2, 1) := by decide +kernel
theorem dX4_readRange_4 : decode cX4_readRange 4 = .ok (.iconst 1, 1) := by decide +kernel
theorem dX4_readRange_5 : decode cX4_readRange 5 = .ok (.isub, 1) := by decide +kernel
theorem dX4_readRange_6 : decode cX4_readRange 6 = .ok (.istore 6, 2) := by decide +kernel
theorem dX4_readRange_8 : decode cX4_readRange 8 = .ok (.iload 6, 2) := by decide +kernel
theorem dX4_readRange_10 : decode cX4_readRange 10 = .ok (.ifCond .lt 91, 3) := by decide +kernel
theorem dX4_readRange_13 : decode cX4_readRange 13 = .ok (.aload_n 0, 1) := by decide +kernel
theorem dX4_readRange_14 : decode cX4_readRange 14 = .ok (.invokevirtual 27, 3) := by decide +kernel
theorem dX4_readRange_17 : decode cX4_readRange 17 = .ok (.ifCond .eq 5, 3) := by decide +kernel
theorem dX4_readRange_20 : decode cX4_readRange 20 = .ok (.iconst 0, 1) := by decide +kernel
theorem dX4_readRange_21 : decode cX4_readRange 21 = .ok (.ireturn, 1) := by decide +kernel
theorem dX4_readRange_22 : decode cX4_readRange 22 = .ok (.aload_n 0, 1) := by decide +kernel
theorem dX4_readRange_23 : decode cX4_readRange 23 = .ok (.getfield 9, 3) := by decide +kernel
theorem dX4_readRange_26 : decode cX4_readRange 26 = .ok (.aload_n 0, 1) := by decide +kernel
theorem dX4_readRange_27 : decode cX4_readRange 27 = .ok (.getfield 33, 3) := by decide +kernel
theorem dX4_readRange_30 : decode cX4_readRange 30 = .ok (.caload, 1) := by decide +kernel
theorem dX4_readRange_31 : decode cX4_readRange 31 = .ok (.bipush 48, 2) := by decide +kernel
theorem dX4_readRange_33 : decode cX4_readRange 33 = .ok (.isub, 1) := by decide +kernel
theorem dX4_readRange_34 : decode cX4_readRange 34 = .ok (.istore 7, 2) := by decide +kernel
theorem dX4_readRange_36 : decode cX4_readRange 36 = .ok (.iload 7, 2) := by decide +kernel
theorem dX4_readRange_38 : decode cX4_readRange 38 = .ok (.ifCond .lt 10, 3) := by decide +kernel
theorem dX4_readRange_41 : decode cX4_readRange 41 = .ok (.iload 7, 2) := by decide +kernel
theorem dX4_readRange_43 : decode cX4_readRange 43 = .ok (.bipush 9, 2) := by decide +kernel
theorem dX4_readRange_45 : decode cX4_readRange 45 = .ok (.if_icmp .le 5, 3) := by decide +kernel
theorem dX4_readRange_48 : decode cX4_readRange 48 = .ok (.iconst 0, 1) := by decide +kernel
theorem dX4_readRange_49 : decode cX4_readRange 49 = .ok (.ireturn, 1) := by decide +kernel
theorem dX4_readRange_50 : decode cX4_readRange 50 = .ok (.bipush 10, 2) := by decide +kernel
theorem dX4_readRange_52 : decode cX4_readRange 52 = .ok (.iload 5, 2) := by decide +kernel
theorem dX4_readRange_54 : decode cX4_readRange 54 = .ok (.imul, 1) := by decide +kernel
theorem dX4_readRange_55 : decode cX4_readRange 55 = .ok (.iload 7, 2) := by decide +kernel
theorem dX4_readRange_57 : decode cX4_readRange 57 = .ok (.iadd, 1) := by decide +kernel
theorem dX4_readRange_58 : decode cX4_readRange 58 = .ok (.istore 5, 2) := by decide +kernel
theorem dX4_readRange_60 : decode cX4_readRange 60 = .ok (.iload 5, 2) := by decide +kernel
theorem dX4_readRange_62 : decode cX4_readRange 62 = .ok (.iload 6, 2) := by decide +kernel
theorem dX4_readRange_64 : decode cX4_readRange 64 = .ok (.invokestatic 80, 3) := by decide +kernel
theorem dX4_readRange_67 : decode cX4_readRange 67 = .ok (.iload 4, 2) := by decide +kernel
theorem dX4_readRange_69 : decode cX4_readRange 69 = .ok (.if_icmp .gt 14, 3) := by decide +kernel
theorem dX4_readRange_72 : decode cX4_readRange 72 = .ok (.iload 5, 2) := by decide +kernel
theorem dX4_readRange_74 : decode cX4_readRange 74 = .ok (.iload 6, 2) := by decide +kernel
theorem dX4_readRange_76 : decode cX4_readRange 76 = .ok (.invokestatic 84, 3) := by decide +kernel
theorem dX4_readRange_79 : decode cX4_readRange 79 = .ok (.iload_n 3, 1) := by decide +kernel
theorem dX4_readRange_80 : decode cX4_readRange 80 = .ok (.if_icmp .ge 5, 3) := by decide +kernel
theorem dX4_readRange_83 : decode cX4_readRange 83 = .ok (.iconst 0, 1) := by decide +kernel
theorem dX4_readRange_84 : decode cX4_readRange 84 = .ok (.ireturn, 1) := by decide +kernel
theorem dX4_readRange_85 : decode cX4_readRange 85 = .ok (.aload_n 0, 1) := by decide +kernel
theorem dX4_readRange_86 : decode cX4_readRange 86 = .ok (.dup, 1) := by decide +kernel
theorem dX4_readRange_87 : decode cX4_readRange 87 = .ok (.getfield 33, 3) := by decide +kernel
theorem dX4_readRange_90 : decode cX4_readRange 90 = .ok (.iconst 1, 1) := by decide +kernel
theorem dX4_readRange_91 : decode cX4_readRange 91 = .ok (.iadd, 1) := by decide +kernel
theorem dX4_readRange_92 : decode cX4_readRange 92 = .ok (.putfield 33, 3) := by decide +kernel
theorem dX4_readRange_95 : decode cX4_readRange 95 = .ok (.iinc 6 (-1), 3) := by decide +kernel
theorem dX4_readRange_98 : decode cX4_readRange 98 = .ok (.goto (-90), 3) := by decide +kernel
theorem dX4_readRange_101 : decode cX4_readRange 101 = .ok (.aload_n 0, 1) := by decide +kernel
theorem dX4_readRange_102 : decode cX4_readRange 102 = .ok (.getfield 15, 3) := by decide +kernel
theorem dX4_readRange_105 : decode cX4_readRange 105 = .ok (.iload_n 1, 1) := by decide +kernel
theorem dX4_readRange_106 : decode cX4_readRange 106 = .ok (.iload 5, 2) := by decide +kernel
theorem dX4_readRange_108 : decode cX4_readRange 108 = .ok (.iastore, 1) := by decide +kernel
theorem dX4_readRange_109 : decode cX4_readRange 109 = .ok (.iconst 1, 1) := by decide +kernel
theorem dX4_readRange_110 : decode cX4_readRange 110 = .ok (.ireturn, 1) := by decide +kernel
theorem dX4_lowestWith_0 : decode cX4_lowestWith 0 = .ok (.iload_n 0, 1) := by decide +kernel
theorem dX4_lowestWith_1 : decode cX4_lowestWith 1 = .ok (.istore_n 2, 1) := by decide +kernel
theorem dX4_lowestWith_2 : decode cX4_lowestWith 2 = .ok (.iconst 0, 1) := by decide +kernel
theorem dX4_lowestWith_3 : decode cX4_lowestWith 3 = .ok (.istore_n 3, 1) := by decide +kernel
theorem dX4_lowestWith_4 : decode cX4_lowestWith 4 = .ok (.iload_n 3, 1) := by decide +kernel
theorem dX4_lowestWith_5 : decode cX4_lowestWith 5 = .ok (.iload_n 1, 1) := by decide +kernel
theorem dX4_lowestWith_6 : decode cX4_lowestWith 6 = .ok (.if_icmp .ge 14, 3) := by decide +kernel
theorem dX4_lowestWith_9 : decode cX4_lowestWith 9 = .ok (.bipush 10, 2) := by decide +kernel
theorem dX4_lowestWith_11 : decode cX4_lowestWith 11 = .ok (.iload_n 2, 1) := by decide +kernel
theorem dX4_lowestWith_12 : decode cX4_lowestWith 12 = .ok (.imul, 1) := by decide +kernel
theorem dX4_lowestWith_13 : decode cX4_lowestWith 13 = .ok (.istore_n 2, 1) := by decide +kernel
theorem dX4_lowestWith_14 : decode cX4_lowestWith 14 = .ok (.iinc 3 1, 3) := by decide +kernel
theorem dX4_lowestWith_17 : decode cX4_lowestWith 17 = .ok (.goto (-13), 3) := by decide +kernel
theorem dX4_lowestWith_20 : decode cX4_lowestWith 20 = .ok (.iload_n 2, 1) := by decide +kernel
theorem dX4_lowestWith_21 : decode cX4_lowestWith 21 = .ok (.ireturn, 1) := by decide +kernel
theorem dX4_highestWith_0 : decode cX4_highestWith 0 = .ok (.iload_n 0, 1) := by decide +kernel
theorem dX4_highestWith_1 : decode cX4_highestWith 1 = .ok (.istore_n 2, 1) := by decide +kernel
theorem dX4_highestWith_2 : decode cX4_highestWith 2 = .ok (.iconst 0, 1) := by decide +kernel
theorem dX4_highestWith_3 : decode cX4_highestWith 3 = .ok (.istore_n 3, 1) := by decide +kernel
theorem dX4_highestWith_4 : decode cX4_highestWith 4 = .ok (.iload_n 3, 1) := by decide +kernel
theorem dX4_highestWith_5 : decode cX4_highestWith 5 = .ok (.iload_n 1, 1) := by decide +kernel
theorem dX4_highestWith_6 : decode cX4_highestWith 6 = .ok (.if_icmp .ge 17, 3) := by decide +kernel
theorem dX4_highestWith_9 : decode cX4_highestWith 9 = .ok (.bipush 10, 2) := by decide +kernel
theorem dX4_highestWith_11 : decode cX4_highestWith 11 = .ok (.iload_n 2, 1) := by decide +kernel
theorem dX4_highestWith_12 : decode cX4_highestWith 12 = .ok (.imul, 1) := by decide +kernel
theorem dX4_highestWith_13 : decode cX4_highestWith 13 = .ok (.bipush 9, 2) := by decide +kernel
theorem dX4_highestWith_15 : decode cX4_highestWith 15 = .ok (.iadd, 1) := by decide +kernel
theorem dX4_highestWith_16 : decode cX4_highestWith 16 = .ok (.istore_n 2, 1) := by decide +kernel
theorem dX4_highestWith_17 : decode cX4_highestWith 17 = .ok (.iinc 3 1, 3) := by decide +kernel
theorem dX4_highestWith_20 : decode cX4_highestWith 20 = .ok (.goto (-16), 3) := by decide +kernel
theorem dX4_highestWith_23 : decode cX4_highestWith 23 = .ok (.iload_n 2, 1) := by decide +kernel
theorem dX4_highestWith_24 : decode cX4_highestWith 24 = .ok (.ireturn, 1) := by decide +kernel
set_option maxRecDepth 20000 in
theorem ggX5_init_X4_init : GoodIn wsX5_init wsX4_init := goodIn_r _ [21, 22, 2, 3, 23, 24, 25, 26, 58, 59, 60, 61, 62] (by decide +kernel) (by decide +kernel)
set_option maxRecDepth 20000 in
theorem gX5_init_X4_init_n9 : GoodIn wsX5_init (wsX4_init) := ggX5_init_X4_init
set_option maxRecDepth 20000 in
theorem ggX5_init_X2_init : GoodIn wsX5_init wsX2_init := goodIn_r _ [29, 30, 2, 3, 25, 31, 32, 33, 34, 35, 36, 37, 38, 39, 40, 41, 42, 43, 44, 45, 46, 47, 48, 49, 50, 69, 70, 71, 72, 73, 74, 75, 76, 77, 78, 79, 80, 81, 82, 86, 87, 88] (by decide +kernel) (by decide +kernel)
set_option maxRecDepth 20000 in
theorem gX5_init_X2_init : GoodIn wsX5_init (wsX2_init) := ggX5_init_X2_init
set_option maxRecDepth 20000 in
theorem ggX5_init_X1_init : GoodIn wsX5_init wsX1_init := goodIn_r _ [53, 54, 2, 3, 55, 56, 9, 10, 57, 28, 29, 30, 25, 31, 32, 33, 34, 35, 36, 37, 38, 39, 40, 41, 42, 43, 44, 45, 46, 47, 48, 49, 50, 83, 84, 85, 69, 70, 71, 72, 73, 74, 75, 76, 77, 78, 79, 80, 81, 82, 86, 87, 88] (by decide +kernel) (by decide +kernel)
set_option maxRecDepth 20000 in
theorem gX5_init_X1_init : GoodIn wsX5_init (wsX1_init) := ggX5_init_X1_init
theorem dX5_init_0 : decode cX5_init 0 = .ok (.aload_n 0, 1) := by decide +kernel
theorem dX5_init_1 : decode cX5_init 1 = .ok (.invokespecial 1, 3) := by decide +kernel
theorem dX5_init_4 : decode cX5_init 4 = .ok (.aload_n 0, 1) := by decide +kernel
theorem dX5_init_5 : decode cX5_init 5 = .ok (.new 7, 3) := by decide +kernel
theorem dX5_init_8 : decode cX5_init 8 = .ok (.dup, 1) := by decide +kernel
theorem dX5_init_9 : decode cX5_init 9 = .ok (.invokespecial 9, 3) := by decide +kernel
theorem dX5_init_12 : decode cX5_init 12 = .ok (.putfield 10, 3) := by decide +kernel
theorem dX5_init_15 : decode cX5_init 15 = .ok (.aload_n 0, 1) := by decide +kernel
theorem dX5_init_16 : decode cX5_init 16 = .ok (.new 16, 3) := by decide +kernel
theorem dX5_init_19 : decode cX5_init 19 = .ok (.dup, 1) := by decide +kernel
theorem dX5_init_20 : decode cX5_init 20 = .ok (.invokespecial 18, 3) := by decide +kernel
theorem dX5_init_23 : decode cX5_init 23 = .ok (.putfield 19, 3) := by decide +kernel
theorem dX5_init_26 : decode cX5_init 26 = .ok (.aload_n 0, 1) := by decide +kernel
theorem dX5_init_27 : decode cX5_init 27 = .ok (.new 16, 3) := by decide +kernel
theorem dX5_init_30 : decode cX5_init 30 = .ok (.dup, 1) := by decide +kernel
theorem dX5_init_31 : decode cX5_init 31 = .ok (.invokespecial 18, 3) := by decide +kernel
theorem dX5_init_34 : decode cX5_init 34 = .ok (.putfield 23, 3) := by decide +kernel
theorem dX5_init_37 : decode cX5_init 37 = .ok (.aload_n 0, 1) := by decide +kernel
theorem dX5_init_38 : decode cX5_init 38 = .ok (.new 26, 3) := by decide +kernel
theorem dX5_init_41 : decode cX5_init 41 = .ok (.dup, 1) := by decide +kernel
theorem dX5_init_42 : decode cX5_init 42 = .ok (.invokespecial 28, 3) := by decide +kernel
theorem dX5_init_45 : decode cX5_init 45 = .ok (.putfield 29, 3) := by decide +kernel
theorem dX5_init_48 : decode cX5_init 48 = .ok (.aload_n 0, 1) := by decide +kernel
theorem dX5_init_49 : decode cX5_init 49 = .ok (.iconst 2, 1) := by decide +kernel
theorem dX5_init_50 : decode cX5_init 50 = .ok (.anewarray 16, 3) := by decide +kernel
theorem dX5_init_53 : decode cX5_init 53 = .ok (.putfield 33, 3) := by decide +kernel
theorem dX5_init_56 : decode cX5_init 56 = .ok (.aload_n 0, 1) := by decide +kernel
theorem dX5_init_57 : decode cX5_init 57 = .ok (.iconst 2, 1) := by decide +kernel
theorem dX5_init_58 : decode cX5_init 58 = .ok (.newarray .boolean, 2) := by decide +kernel
theorem dX5_init_60 : decode cX5_init 60 = .ok (.putfield 37, 3) := by decide +kernel
theorem dX5_init_63 : decode cX5_init 63 = .ok (.iconst 0, 1) := by decide +kernel
theorem dX5_init_64 : decode cX5_init 64 = .ok (.istore_n 1, 1) := by decide +kernel
theorem dX5_init_65 : decode cX5_init 65 = .ok (.iload_n 1, 1) := by decide +kernel
theorem dX5_init_66 : decode cX5_init 66 = .ok (.iconst 2, 1) := by decide +kernel
theorem dX5_init_67 : decode cX5_init 67 = .ok (.if_icmp .ge 22, 3) := by decide +kernel
theorem dX5_init_70 : decode cX5_init 70 = .ok (.aload_n 0, 1) := by decide +kernel
theorem dX5_init_71 : decode cX5_init 71 = .ok (.getfield 33, 3) := by decide +kernel
theorem dX5_init_74 : decode cX5_init 74 = .ok (.iload_n 1, 1) := by decide +kernel
theorem dX5_init_75 : decode cX5_init 75 = .ok (.new 16, 3) := by decide +kernel
theorem dX5_init_78 : decode cX5_init 78 = .ok (.dup, 1) := by decide +kernel
theorem dX5_init_79 : decode cX5_init 79 = .ok (.invokespecial 18, 3) := by decide +kernel
theorem dX5_init_82 : decode cX5_init 82 = .ok (.aastore, 1) := by decide +kernel
theorem dX5_init_83 : decode cX5_init 83 = .ok (.iinc 1 1, 3) := by decide +kernel
theorem dX5_init_86 : decode cX5_init 86 = .ok (.goto (-21), 3) := by decide +kernel
theorem dX5_init_89 : decode cX5_init 89 = .ok (.return_, 1) := by decide +kernel
set_option maxRecDepth 20000 in
theorem ggX5_append_X4_add : GoodIn wsX5_append wsX4_add := goodIn_r _ [11, 12, 13, 20, 21, 22, 23, 24] (by decide +kernel) (by decide +kernel)
set_option maxRecDepth 20000 in
theorem gX5_append_X4_add : GoodIn wsX5_append (wsV RX5 57 RX4 yX4_add wsX4_add) := goodIn_app (goodIn_of _ (by decide +kernel)) ggX5_append_X4_add
theorem dX5_append_0 : decode cX5_append 0 = .ok (.iload_n 1, 1) := by decide +kernel
theorem dX5_append_1 : decode cX5_append 1 = .ok (.ifCond .lt 10, 3) := by decide +kernel
theorem dX5_append_4 : decode cX5_append 4 = .ok (.iload_n 1, 1) := by decide +kernel
theorem dX5_append_5 : decode cX5_append 5 = .ok (.sipush 255, 3) := by decide +kernel
theorem dX5_append_8 : decode cX5_append 8 = .ok (.if_icmp .le 13, 3) := by decide +kernel
theorem dX5_append_11 : decode cX5_append 11 = .ok (.new 41, 3) := by decide +kernel
theorem dX5_append_14 : decode cX5_append 14 = .ok (.dup, 1) := by decide +kernel
theorem dX5_append_15 : decode cX5_append 15 = .ok (.ldc 43, 2) := by decide +kernel
theorem dX5_append_17 : decode cX5_append 17 = .ok (.invokespecial 45, 3) := by decide +kernel
theorem dX5_append_20 : decode cX5_append 20 = .ok (.athrow, 1) := by decide +kernel
theorem dX5_append_21 : decode cX5_append 21 = .ok (.aload_n 0, 1) := by decide +kernel
theorem dX5_append_22 : decode cX5_append 22 = .ok (.getfield 10, 3) := by decide +kernel
theorem dX5_append_25 : decode cX5_append 25 = .ok (.getfield 48, 3) := by decide +kernel
theorem dX5_append_28 : decode cX5_append 28 = .ok (.bipush 120, 2) := by decide +kernel
theorem dX5_append_30 : decode cX5_append 30 = .ok (.if_icmp .lt 13, 3) := by decide +kernel
theorem dX5_append_33 : decode cX5_append 33 = .ok (.new 52, 3) := by decide +kernel
theorem dX5_append_36 : decode cX5_append 36 = .ok (.dup, 1) := by decide +kernel
theorem dX5_append_37 : decode cX5_append 37 = .ok (.ldc 54, 2) := by decide +kernel
theorem dX5_append_39 : decode cX5_append 39 = .ok (.invokespecial 56, 3) := by decide +kernel
theorem dX5_append_42 : decode cX5_append 42 = .ok (.athrow, 1) := by decide +kernel
theorem dX5_append_43 : decode cX5_append 43 = .ok (.aload_n 0, 1) := by decide +kernel
theorem dX5_append_44 : decode cX5_append 44 = .ok (.getfield 10, 3) := by decide +kernel
theorem dX5_append_47 : decode cX5_append 47 = .ok (.iload_n 1, 1) := by decide +kernel
theorem dX5_append_48 : decode cX5_append 48 = .ok (.i2c, 1) := by decide +kernel
theorem dX5_append_49 : decode cX5_append 49 = .ok (.invokevirtual 57, 3) := by decide +kernel
theorem dX5_append_52 : decode cX5_append 52 = .ok (.ireturn, 1) := by decide +kernel
theorem dX5_clearText_0 : decode cX5_clearText 0 = .ok (.aload_n 0, 1) := by decide +kernel
theorem dX5_clearText_1 : decode cX5_clearText 1 = .ok (.getfield 10, 3) := by decide +kernel
theorem dX5_clearText_4 : decode cX5_clearText 4 = .ok (.getfield 48, 3) := by decide +kernel
theorem dX5_clearText_7 : decode cX5_clearText 7 = .ok (.istore_n 1, 1) := by decide +kernel
theorem dX5_clearText_8 : decode cX5_clearText 8 = .ok (.aload_n 0, 1) := by decide +kernel
theorem dX5_clearText_9 : decode cX5_clearText 9 = .ok (.getfield 10, 3) := by decide +kernel
theorem dX5_clearText_12 : decode cX5_clearText 12 = .ok (.iconst 0, 1) := by decide +kernel
theorem dX5_clearText_13 : decode cX5_clearText 13 = .ok (.putfield 48, 3) := by decide +kernel
theorem dX5_clearText_16 : decode cX5_clearText 16 = .ok (.iload_n 1, 1) := by decide +kernel
theorem dX5_clearText_17 : decode cX5_clearText 17 = .ok (.ireturn, 1) := by decide +kernel
set_option maxRecDepth 20000 in
theorem ggX5_errorPosition_X4_firstError : GoodIn wsX5_errorPosition wsX4_firstError := goodIn_r _ [6, 7, 8, 9, 10, 5, 11, 12, 13, 14, 15, 16, 17, 18, 19, 20, 21, 22, 23, 24, 25, 26, 27, 28, 29, 30, 31, 32, 33, 34, 35, 36, 37, 38, 39, 40, 41, 42, 43, 44, 45, 46, 47, 48, 49, 50, 51, 52, 53, 54, 55, 56, 57, 58, 59, 60, 61, 62, 63, 64, 65, 66, 67, 68, 69, 70, 71, 72, 73, 74, 75, 76, 77, 78, 79, 80, 81, 82, 83, 84, 85, 86, 87, 88, 89, 90, 91, 92, 93, 100, 101, 102, 103, 104] (by decide +kernel) (by decide +kernel)
set_option maxRecDepth 20000 in
theorem gX5_errorPosition_X4_firstError : GoodIn wsX5_errorPosition (wsV RX5 61 RX4 yX4_firstError wsX4_firstError) := goodIn_app (goodIn_of _ (by decide +kernel)) ggX5_errorPosition_X4_firstError
theorem dX5_errorPosition_0 : decode cX5_errorPosition 0 = .ok (.aload_n 0, 1) := by decide +kernel
theorem dX5_errorPosition_1 : decode cX5_errorPosition 1 = .ok (.getfield 10, 3) := by decide +kernel
theorem dX5_errorPosition_4 : decode cX5_errorPosition 4 = .ok (.invokevirtual 61, 3) := by decide +kernel
theorem dX5_errorPosition_7 : decode cX5_errorPosition 7 = .ok (.ireturn, 1) := by decide +kernel
set_option maxRecDepth 20000 in
theorem ggX5_load_X4_firstError : GoodIn wsX5_load wsX4_firstError := goodIn_r _ [11, 12, 13, 14, 15, 10, 16, 17, 18, 19, 20, 21, 22, 23, 24, 25, 26, 27, 28, 29, 30, 31, 32, 33, 34, 35, 36, 37, 38, 39, 40, 41, 42, 43, 44, 45, 46, 47, 48, 49, 50, 51, 52, 53, 54, 55, 56, 57, 58, 59, 60, 61, 62, 63, 64, 65, 66, 67, 68, 69, 70, 71, 72, 73, 74, 75, 76, 77, 78, 79, 80, 81, 82, 83, 84, 85, 86, 87, 88, 89, 90, 91, 92, 93, 94, 95, 96, 97, 98, 325, 326, 327, 328, 329] (by decide +kernel) (by decide +kernel)
set_option maxRecDepth 20000 in
theorem gX5_load_X4_firstError : GoodIn wsX5_load (wsV RX5 61 RX4 yX4_firstError wsX4_firstError) := goodIn_app (goodIn_of _ (by decide +kernel)) ggX5_load_X4_firstError
set_option maxRecDepth 20000 in
theorem ggX5_load_X2_clear : GoodIn wsX5_load wsX2_clear := goodIn_r _ [103, 104, 105, 106, 107, 108, 109, 110, 111, 112, 113, 114, 115, 116, 117, 118, 119, 120, 121, 122, 123, 330, 331, 332, 333, 334, 335, 336, 337, 338, 339, 340, 341, 342, 343, 344, 345, 346] (by decide +kernel) (by decide +kernel)
set_option maxRecDepth 20000 in
theorem gX5_load_X2_clear : GoodIn wsX5_load (wsV RX5 67 RX2 yX2_clear wsX2_clear) := goodIn_app (goodIn_of _ (by decide +kernel)) ggX5_load_X2_clear
set_option maxRecDepth 20000 in
theorem ggX5_load_X1_clear : GoodIn wsX5_load wsX1_clear := goodIn_r _ [128, 129, 347, 348, 349] (by decide +kernel) (by decide +kernel)
set_option maxRecDepth 20000 in
theorem gX5_load_X1_clear : GoodIn wsX5_load (wsV RX5 70 RX1 yX1_clear wsX1_clear) := goodIn_app (goodIn_of _ (by decide +kernel)) ggX5_load_X1_clear
set_option maxRecDepth 20000 in
theorem ggX5_load_X4_readStart : GoodIn wsX5_load wsX4_readStart := goodIn_r _ [16, 12, 17, 18, 19, 20, 10, 21, 22, 325, 326, 327, 328, 329] (by decide +kernel) (by decide +kernel)
set_option maxRecDepth 20000 in
theorem gX5_load_X4_readStart : GoodIn wsX5_load (wsV RX5 71 RX4 yX4_readStart wsX4_readStart) := goodIn_app (goodIn_of _ (by decide +kernel)) ggX5_load_X4_readStart
set_option maxRecDepth 20000 in
theorem ggX5_load_X4_isAtEnd : GoodIn wsX5_load wsX4_isAtEnd := goodIn_r _ [21, 12, 22, 325, 326, 327, 328, 329] (by decide +kernel) (by decide +kernel)
set_option maxRecDepth 20000 in
theorem gX5_load_X4_isAtEnd : GoodIn wsX5_load (wsV RX5 75 RX4 yX4_isAtEnd wsX4_isAtEnd) := goodIn_app (goodIn_of _ (by decide +kernel)) ggX5_load_X4_isAtEnd
set_option maxRecDepth 20000 in
theorem ggX5_load_X4_readCommand : GoodIn wsX5_load wsX4_readCommand := goodIn_r _ [26, 17, 12, 27, 18, 19, 20, 10, 21, 22, 28, 29, 30, 31, 32, 33, 34, 35, 36, 37, 38, 39, 40, 41, 42, 43, 44, 45, 46, 47, 48, 49, 50, 51, 52, 53, 54, 55, 56, 57, 58, 59, 60, 61, 62, 63, 64, 65, 66, 67, 68, 69, 70, 71, 72, 73, 74, 75, 76, 77, 78, 79, 80, 81, 82, 83, 84, 85, 86, 87, 88, 89, 90, 91, 92, 93, 94, 95, 96, 97, 98, 325, 326, 327, 328, 329] (by decide +kernel) (by decide +kernel)
set_option maxRecDepth 20000 in
theorem gX5_load_X4_readCommand : GoodIn wsX5_load (wsV RX5 78 RX4 yX4_readCommand wsX4_readCommand) := goodIn_app (goodIn_of _ (by decide +kernel)) ggX5_load_X4_readCommand
set_option maxRecDepth 20000 in
theorem ggX5_load_X0_performText : GoodIn wsX5_load wsX0_performText := goodIn_r _ [136, 137, 138, 139, 140, 141, 102, 142, 143, 144, 145, 146, 105, 147, 148, 149, 150, 151, 152, 153, 154, 155, 156, 157, 158, 159, 160, 161, 162, 163, 164, 165, 166, 104, 167, 168, 169, 170, 171, 172, 109, 173, 174, 175, 176, 112, 177, 178, 179, 180, 181, 182, 183, 120, 184, 122, 185, 186, 187, 188, 189, 190, 191, 192, 193, 194, 195, 196, 197, 198, 199, 200, 201, 202, 203, 204, 205, 206, 207, 208, 209, 210, 211, 212, 213, 214, 215, 216, 217, 218, 219, 220, 221, 222, 223, 224, 108, 225, 226, 227, 228, 229, 230, 231, 232, 233, 234, 235, 236, 237, 238, 239, 240, 241, 242, 243, 244, 106, 245, 246, 247, 248, 249, 250, 251, 252, 253, 254, 255, 256, 257, 258, 259, 260, 261, 262, 263, 264, 265, 266, 110, 267, 268, 269, 270, 271, 272, 273, 274, 275, 276, 277, 278, 279, 280, 281, 282, 283, 284, 285, 286, 287, 288, 289, 290, 291, 292, 293, 294, 295, 296, 297, 298, 299, 300, 301, 302, 303, 304, 305, 306, 107, 307, 308, 309, 310, 311, 312, 313, 314, 315, 316, 317, 318, 325, 326, 327, 328, 329, 330, 331, 332, 333, 334, 335, 336, 337, 338, 339, 340, 341, 342, 343, 344, 345, 346] (by decide +kernel) (by decide +kernel)
set_option maxRecDepth 20000 in
theorem gX5_load_X0_performText : GoodIn wsX5_load (va_wsS RX5 81 yX0_performText wsX0_performText) := goodIn_app (goodIn_of _ (by decide +kernel)) ggX5_load_X0_performText
theorem dX5_load_0 : decode cX5_load 0 = .ok (.aload_n 0, 1) := by decide +kernel
theorem dX5_load_1 : decode cX5_load 1 = .ok (.getfield 10, 3) := by decide +kernel
theorem dX5_load_4 : decode cX5_load 4 = .ok (.invokevirtual 61, 3) := by decide +kernel
theorem dX5_load_7 : decode cX5_load 7 = .ok (.iconst (-1), 1) := by decide +kernel
theorem dX5_load_8 : decode cX5_load 8 = .ok (.if_icmp .eq 13, 3) := by decide +kernel
theorem dX5_load_11 : decode cX5_load 11 = .ok (.new 52, 3) := by decide +kernel
theorem dX5_load_14 : decode cX5_load 14 = .ok (.dup, 1) := by decide +kernel
theorem dX5_load_15 : decode cX5_load 15 = .ok (.ldc 65, 2) := by decide +kernel
theorem dX5_load_17 : decode cX5_load 17 = .ok (.invokespecial 56, 3) := by decide +kernel
theorem dX5_load_20 : decode cX5_load 20 = .ok (.athrow, 1) := by decide +kernel
theorem dX5_load_21 : decode cX5_load 21 = .ok (.aload_n 0, 1) := by decide +kernel
theorem dX5_load_22 : decode cX5_load 22 = .ok (.getfield 19, 3) := by decide +kernel
theorem dX5_load_25 : decode cX5_load 25 = .ok (.invokevirtual 67, 3) := by decide +kernel
theorem dX5_load_28 : decode cX5_load 28 = .ok (.aload_n 0, 1) := by decide +kernel
theorem dX5_load_29 : decode cX5_load 29 = .ok (.getfield 29, 3) := by decide +kernel
theorem dX5_load_32 : decode cX5_load 32 = .ok (.invokevirtual 70, 3) := by decide +kernel
theorem dX5_load_35 : decode cX5_load 35 = .ok (.iconst 0, 1) := by decide +kernel
theorem dX5_load_36 : decode cX5_load 36 = .ok (.istore_n 1, 1) := by decide +kernel
theorem dX5_load_37 : decode cX5_load 37 = .ok (.iload_n 1, 1) := by decide +kernel
theorem dX5_load_38 : decode cX5_load 38 = .ok (.iconst 2, 1) := by decide +kernel
theorem dX5_load_39 : decode cX5_load 39 = .ok (.if_icmp .ge 16, 3) := by decide +kernel
theorem dX5_load_42 : decode cX5_load 42 = .ok (.aload_n 0, 1) := by decide +kernel
theorem dX5_load_43 : decode cX5_load 43 = .ok (.getfield 37, 3) := by decide +kernel
theorem dX5_load_46 : decode cX5_load 46 = .ok (.iload_n 1, 1) := by decide +kernel
theorem dX5_load_47 : decode cX5_load 47 = .ok (.iconst 0, 1) := by decide +kernel
theorem dX5_load_48 : decode cX5_load 48 = .ok (.bastore, 1) := by decide +kernel
theorem dX5_load_49 : decode cX5_load 49 = .ok (.iinc 1 1, 3) := by decide +kernel
theorem dX5_load_52 : decode cX5_load 52 = .ok (.goto (-15), 3) := by decide +kernel
theorem dX5_load_55 : decode cX5_load 55 = .ok (.iconst 0, 1) := by decide +kernel
theorem dX5_load_56 : decode cX5_load 56 = .ok (.istore_n 1, 1) := by decide +kernel
theorem dX5_load_57 : decode cX5_load 57 = .ok (.aload_n 0, 1) := by decide +kernel
theorem dX5_load_58 : decode cX5_load 58 = .ok (.getfield 10, 3) := by decide +kernel
theorem dX5_load_61 : decode cX5_load 61 = .ok (.invokevirtual 71, 3) := by decide +kernel
theorem dX5_load_64 : decode cX5_load 64 = .ok (.pop, 1) := by decide +kernel
theorem dX5_load_65 : decode cX5_load 65 = .ok (.iconst 0, 1) := by decide +kernel
theorem dX5_load_66 : decode cX5_load 66 = .ok (.istore_n 2, 1) := by decide +kernel
theorem dX5_load_67 : decode cX5_load 67 = .ok (.iload_n 2, 1) := by decide +kernel
theorem dX5_load_68 : decode cX5_load 68 = .ok (.bipush 120, 2) := by decide +kernel
theorem dX5_load_70 : decode cX5_load 70 = .ok (.if_icmp .ge 46, 3) := by decide +kernel
theorem dX5_load_73 : decode cX5_load 73 = .ok (.aload_n 0, 1) := by decide +kernel
theorem dX5_load_74 : decode cX5_load 74 = .ok (.getfield 10, 3) := by decide +kernel
theorem dX5_load_77 : decode cX5_load 77 = .ok (.invokevirtual 75, 3) := by decide +kernel
theorem dX5_load_80 : decode cX5_load 80 = .ok (.ifCond .ne 36, 3) := by decide +kernel
theorem dX5_load_83 : decode cX5_load 83 = .ok (.aload_n 0, 1) := by decide +kernel
theorem dX5_load_84 : decode cX5_load 84 = .ok (.getfield 10, 3) := by decide +kernel
theorem dX5_load_87 : decode cX5_load 87 = .ok (.invokevirtual 78, 3) := by decide +kernel
theorem dX5_load_90 : decode cX5_load 90 = .ok (.ifCond .eq 20, 3) := by decide +kernel
theorem dX5_load_93 : decode cX5_load 93 = .ok (.aload_n 0, 1) := by decide +kernel
theorem dX5_load_94 : decode cX5_load 94 = .ok (.getfield 19, 3) := by decide +kernel
theorem dX5_load_97 : decode cX5_load 97 = .ok (.aload_n 0, 1) := by decide +kernel
theorem dX5_load_98 : decode cX5_load 98 = .ok (.getfield 10, 3) := by decide +kernel
theorem dX5_load_101 : decode cX5_load 101 = .ok (.invokestatic 81, 3) := by decide +kernel
theorem dX5_load_104 : decode cX5_load 104 = .ok (.ifCond .ne 6, 3) := by decide +kernel
theorem dX5_load_107 : decode cX5_load 107 = .ok (.iinc 1 1, 3) := by decide +kernel
theorem dX5_load_110 : decode cX5_load 110 = .ok (.iinc 2 1, 3) := by decide +kernel
theorem dX5_load_113 : decode cX5_load 113 = .ok (.goto (-46), 3) := by decide +kernel
theorem dX5_load_116 : decode cX5_load 116 = .ok (.iload_n 1, 1) := by decide +kernel
theorem dX5_load_117 : decode cX5_load 117 = .ok (.ireturn, 1) := by decide +kernel
set_option maxRecDepth 20000 in
theorem ggX5_about_X3_countAll : GoodIn wsX5_about wsX3_countAll := goodIn_r _ [12, 13, 71, 72, 73] (by decide +kernel) (by decide +kernel)
set_option maxRecDepth 20000 in
theorem gX5_about_X3_countAll : GoodIn wsX5_about (wsV RX5 97 RX3 yX3_countAll wsX3_countAll) := goodIn_app (goodIn_of _ (by decide +kernel)) ggX5_about_X3_countAll
set_option maxRecDepth 20000 in
theorem ggX5_about_X3_countServed : GoodIn wsX5_about wsX3_countServed := goodIn_r _ [17, 18, 9, 10, 11, 12, 13, 71, 72, 73] (by decide +kernel) (by decide +kernel)
set_option maxRecDepth 20000 in
theorem gX5_about_X3_countServed : GoodIn wsX5_about (wsV RX5 103 RX3 yX3_countServed wsX3_countServed) := goodIn_app (goodIn_of _ (by decide +kernel)) ggX5_about_X3_countServed
set_option maxRecDepth 20000 in
theorem ggX5_about_X3_chargedInAll : GoodIn wsX5_about wsX3_chargedInAll := goodIn_r _ [22, 23, 24, 25, 11, 26, 27, 28, 29, 30, 13, 31, 32, 33, 34, 35, 36, 37, 38, 71, 72, 73] (by decide +kernel) (by decide +kernel)
set_option maxRecDepth 20000 in
theorem gX5_about_X3_chargedInAll : GoodIn wsX5_about (wsV RX5 109 RX3 yX3_chargedInAll wsX3_chargedInAll) := goodIn_app (goodIn_of _ (by decide +kernel)) ggX5_about_X3_chargedInAll
set_option maxRecDepth 20000 in
theorem ggX5_about_X2_writtenOffInAll : GoodIn wsX5_about wsX2_writtenOffInAll := goodIn_r _ [43, 44, 57, 58, 59, 60, 61, 62, 63, 64, 65, 66, 67, 68, 69, 70] (by decide +kernel) (by decide +kernel)
set_option maxRecDepth 20000 in
theorem gX5_about_X2_writtenOffInAll : GoodIn wsX5_about (wsV RX5 112 RX2 yX2_writtenOffInAll wsX2_writtenOffInAll) := goodIn_app (goodIn_of _ (by decide +kernel)) ggX5_about_X2_writtenOffInAll
set_option maxRecDepth 20000 in
theorem ggX5_about_X2_sumOfBalances : GoodIn wsX5_about wsX2_sumOfBalances := goodIn_r _ [48, 49, 50, 57, 58, 59, 60, 61, 62, 63, 64, 65, 66, 67, 68, 69, 70] (by decide +kernel) (by decide +kernel)
set_option maxRecDepth 20000 in
theorem gX5_about_X2_sumOfBalances : GoodIn wsX5_about (wsV RX5 115 RX2 yX2_sumOfBalances wsX2_sumOfBalances) := goodIn_app (goodIn_of _ (by decide +kernel)) ggX5_about_X2_sumOfBalances
theorem dX5_about_0 : decode cX5_about 0 = .ok (.iload_n 1, 1) := by decide +kernel
theorem dX5_about_1 : decode cX5_about 1 = .ok (.tableswitch 185 0 11 #[63, 71, 79, 91, 102, 114, 126, 138, 150, 158, 169, 177], 63) := by decide +kernel
theorem dX5_about_64 : decode cX5_about 64 = .ok (.aload_n 0, 1) := by decide +kernel
theorem dX5_about_65 : decode cX5_about 65 = .ok (.getfield 19, 3) := by decide +kernel
theorem dX5_about_68 : decode cX5_about 68 = .ok (.getfield 87, 3) := by decide +kernel
theorem dX5_about_71 : decode cX5_about 71 = .ok (.ireturn, 1) := by decide +kernel
theorem dX5_about_72 : decode cX5_about 72 = .ok (.aload_n 0, 1) := by decide +kernel
theorem dX5_about_73 : decode cX5_about 73 = .ok (.getfield 19, 3) := by decide +kernel
theorem dX5_about_76 : decode cX5_about 76 = .ok (.getfield 90, 3) := by decide +kernel
theorem dX5_about_79 : decode cX5_about 79 = .ok (.ireturn, 1) := by decide +kernel
theorem dX5_about_80 : decode cX5_about 80 = .ok (.aload_n 0, 1) := by decide +kernel
theorem dX5_about_81 : decode cX5_about 81 = .ok (.getfield 19, 3) := by decide +kernel
theorem dX5_about_84 : decode cX5_about 84 = .ok (.getfield 93, 3) := by decide +kernel
theorem dX5_about_87 : decode cX5_about 87 = .ok (.iconst 1, 1) := by decide +kernel
theorem dX5_about_88 : decode cX5_about 88 = .ok (.invokevirtual 97, 3) := by decide +kernel
theorem dX5_about_91 : decode cX5_about 91 = .ok (.ireturn, 1) := by decide +kernel
theorem dX5_about_92 : decode cX5_about 92 = .ok (.aload_n 0, 1) := by decide +kernel
theorem dX5_about_93 : decode cX5_about 93 = .ok (.getfield 19, 3) := by decide +kernel
theorem dX5_about_96 : decode cX5_about 96 = .ok (.getfield 93, 3) := by decide +kernel
theorem dX5_about_99 : decode cX5_about 99 = .ok (.invokevirtual 103, 3) := by decide +kernel
theorem dX5_about_102 : decode cX5_about 102 = .ok (.ireturn, 1) := by decide +kernel
theorem dX5_about_103 : decode cX5_about 103 = .ok (.aload_n 0, 1) := by decide +kernel
theorem dX5_about_104 : decode cX5_about 104 = .ok (.getfield 19, 3) := by decide +kernel
theorem dX5_about_107 : decode cX5_about 107 = .ok (.getfield 93, 3) := by decide +kernel
theorem dX5_about_110 : decode cX5_about 110 = .ok (.iconst 2, 1) := by decide +kernel
theorem dX5_about_111 : decode cX5_about 111 = .ok (.invokevirtual 97, 3) := by decide +kernel
theorem dX5_about_114 : decode cX5_about 114 = .ok (.ireturn, 1) := by decide +kernel
theorem dX5_about_115 : decode cX5_about 115 = .ok (.aload_n 0, 1) := by decide +kernel
theorem dX5_about_116 : decode cX5_about 116 = .ok (.getfield 19, 3) := by decide +kernel
theorem dX5_about_119 : decode cX5_about 119 = .ok (.getfield 93, 3) := by decide +kernel
theorem dX5_about_122 : decode cX5_about 122 = .ok (.iconst 3, 1) := by decide +kernel
theorem dX5_about_123 : decode cX5_about 123 = .ok (.invokevirtual 97, 3) := by decide +kernel
theorem dX5_about_126 : decode cX5_about 126 = .ok (.ireturn, 1) := by decide +kernel
theorem dX5_about_127 : decode cX5_about 127 = .ok (.aload_n 0, 1) := by decide +kernel
theorem dX5_about_128 : decode cX5_about 128 = .ok (.getfield 19, 3) := by decide +kernel
theorem dX5_about_131 : decode cX5_about 131 = .ok (.getfield 93, 3) := by decide +kernel
theorem dX5_about_134 : decode cX5_about 134 = .ok (.iconst 4, 1) := by decide +kernel
theorem dX5_about_135 : decode cX5_about 135 = .ok (.invokevirtual 97, 3) := by decide +kernel
theorem dX5_about_138 : decode cX5_about 138 = .ok (.ireturn, 1) := by decide +kernel
theorem dX5_about_139 : decode cX5_about 139 = .ok (.aload_n 0, 1) := by decide +kernel
theorem dX5_about_140 : decode cX5_about 140 = .ok (.getfield 19, 3) := by decide +kernel
theorem dX5_about_143 : decode cX5_about 143 = .ok (.getfield 93, 3) := by decide +kernel
theorem dX5_about_146 : decode cX5_about 146 = .ok (.iconst 5, 1) := by decide +kernel
theorem dX5_about_147 : decode cX5_about 147 = .ok (.invokevirtual 97, 3) := by decide +kernel
theorem dX5_about_150 : decode cX5_about 150 = .ok (.ireturn, 1) := by decide +kernel
theorem dX5_about_151 : decode cX5_about 151 = .ok (.aload_n 0, 1) := by decide +kernel
theorem dX5_about_152 : decode cX5_about 152 = .ok (.getfield 19, 3) := by decide +kernel
theorem dX5_about_155 : decode cX5_about 155 = .ok (.getfield 106, 3) := by decide +kernel
theorem dX5_about_158 : decode cX5_about 158 = .ok (.ireturn, 1) := by decide +kernel
theorem dX5_about_159 : decode cX5_about 159 = .ok (.aload_n 0, 1) := by decide +kernel
theorem dX5_about_160 : decode cX5_about 160 = .ok (.getfield 19, 3) := by decide +kernel
theorem dX5_about_163 : decode cX5_about 163 = .ok (.getfield 93, 3) := by decide +kernel
theorem dX5_about_166 : decode cX5_about 166 = .ok (.invokevirtual 109, 3) := by decide +kernel
theorem dX5_about_169 : decode cX5_about 169 = .ok (.ireturn, 1) := by decide +kernel
theorem dX5_about_170 : decode cX5_about 170 = .ok (.aload_n 0, 1) := by decide +kernel
theorem dX5_about_171 : decode cX5_about 171 = .ok (.getfield 19, 3) := by decide +kernel
theorem dX5_about_174 : decode cX5_about 174 = .ok (.invokevirtual 112, 3) := by decide +kernel
theorem dX5_about_177 : decode cX5_about 177 = .ok (.ireturn, 1) := by decide +kernel
theorem dX5_about_178 : decode cX5_about 178 = .ok (.aload_n 0, 1) := by decide +kernel
theorem dX5_about_179 : decode cX5_about 179 = .ok (.getfield 19, 3) := by decide +kernel
theorem dX5_about_182 : decode cX5_about 182 = .ok (.invokevirtual 115, 3) := by decide +kernel
theorem dX5_about_185 : decode cX5_about 185 = .ok (.ireturn, 1) := by decide +kernel
theorem dX5_about_186 : decode cX5_about 186 = .ok (.new 41, 3) := by decide +kernel
theorem dX5_about_189 : decode cX5_about 189 = .ok (.dup, 1) := by decide +kernel
theorem dX5_about_190 : decode cX5_about 190 = .ok (.ldc 118, 2) := by decide +kernel
theorem dX5_about_192 : decode cX5_about 192 = .ok (.invokespecial 45, 3) := by decide +kernel
theorem dX5_about_195 : decode cX5_about 195 = .ok (.athrow, 1) := by decide +kernel
set_option maxRecDepth 20000 in
theorem ggX5_child_X5_requireChild : GoodIn wsX5_child wsX5_requireChild := goodIn_ca (goodIn_r _ [14, 15, 16, 3, 17, 18, 19, 20, 21, 22, 50, 51, 52, 53, 54, 55, 56, 57, 58, 59, 60, 61, 62, 63, 64, 65, 66, 67, 68, 69] (by decide +kernel) (by decide +kernel)) (goodIn_sub (fun _ h => List.mem_cons_of_mem _ (List.mem_append_right _ h)) (by decide +kernel))
set_option maxRecDepth 20000 in
theorem gX5_child_X5_requireChild : GoodIn wsX5_child (wsV RX5 120 RX5 yX5_requireChild wsX5_requireChild) := goodIn_app (goodIn_of _ (by decide +kernel)) ggX5_child_X5_requireChild
set_option maxRecDepth 20000 in
theorem ggX5_child_X3_countOf : GoodIn wsX5_child wsX3_countOf := goodIn_r _ [27, 28, 29, 30, 26, 31, 32, 33, 34, 35, 70, 71, 72] (by decide +kernel) (by decide +kernel)
set_option maxRecDepth 20000 in
theorem gX5_child_X3_countOf : GoodIn wsX5_child (wsV RX5 140 RX3 yX3_countOf wsX3_countOf) := goodIn_app (goodIn_of _ (by decide +kernel)) ggX5_child_X3_countOf
set_option maxRecDepth 20000 in
theorem ggX5_child_X3_countChargedToSiblings : GoodIn wsX5_child wsX3_countChargedToSiblings := goodIn_r _ [39, 28, 29, 30, 26, 31, 32, 33, 34, 35, 40, 41, 42, 43, 44, 70, 71, 72] (by decide +kernel) (by decide +kernel)
set_option maxRecDepth 20000 in
theorem gX5_child_X3_countChargedToSiblings : GoodIn wsX5_child (wsV RX5 144 RX3 yX3_countChargedToSiblings wsX3_countChargedToSiblings) := goodIn_app (goodIn_of _ (by decide +kernel)) ggX5_child_X3_countChargedToSiblings
set_option maxRecDepth 20000 in
theorem ggX5_child_X3_chargedTo : GoodIn wsX5_child wsX3_chargedTo := goodIn_r _ [48, 32, 44, 49, 70, 71, 72] (by decide +kernel) (by decide +kernel)
set_option maxRecDepth 20000 in
theorem gX5_child_X3_chargedTo : GoodIn wsX5_child (wsV RX5 147 RX3 yX3_chargedTo wsX3_chargedTo) := goodIn_app (goodIn_of _ (by decide +kernel)) ggX5_child_X3_chargedTo
theorem dX5_child_0 : decode cX5_child 0 = .ok (.aload_n 0, 1) := by decide +kernel
theorem dX5_child_1 : decode cX5_child 1 = .ok (.iload_n 1, 1) := by decide +kernel
theorem dX5_child_2 : decode cX5_child 2 = .ok (.invokevirtual 120, 3) := by decide +kernel
theorem dX5_child_5 : decode cX5_child 5 = .ok (.iload_n 2, 1) := by decide +kernel
theorem dX5_child_6 : decode cX5_child 6 = .ok (.tableswitch 163 0 8 #[50, 60, 70, 80, 90, 100, 126, 138, 150], 50) := by decide +kernel
theorem dX5_child_56 : decode cX5_child 56 = .ok (.aload_n 0, 1) := by decide +kernel
theorem dX5_child_57 : decode cX5_child 57 = .ok (.getfield 19, 3) := by decide +kernel
theorem dX5_child_60 : decode cX5_child 60 = .ok (.getfield 124, 3) := by decide +kernel
theorem dX5_child_63 : decode cX5_child 63 = .ok (.iload_n 1, 1) := by decide +kernel
theorem dX5_child_64 : decode cX5_child 64 = .ok (.iaload, 1) := by decide +kernel
theorem dX5_child_65 : decode cX5_child 65 = .ok (.ireturn, 1) := by decide +kernel
theorem dX5_child_66 : decode cX5_child 66 = .ok (.aload_n 0, 1) := by decide +kernel
theorem dX5_child_67 : decode cX5_child 67 = .ok (.getfield 19, 3) := by decide +kernel
theorem dX5_child_70 : decode cX5_child 70 = .ok (.getfield 128, 3) := by decide +kernel
theorem dX5_child_73 : decode cX5_child 73 = .ok (.iload_n 1, 1) := by decide +kernel
theorem dX5_child_74 : decode cX5_child 74 = .ok (.iaload, 1) := by decide +kernel
theorem dX5_child_75 : decode cX5_child 75 = .ok (.ireturn, 1) := by decide +kernel
theorem dX5_child_76 : decode cX5_child 76 = .ok (.aload_n 0, 1) := by decide +kernel
theorem dX5_child_77 : decode cX5_child 77 = .ok (.getfield 19, 3) := by decide +kernel
theorem dX5_child_80 : decode cX5_child 80 = .ok (.getfield 131, 3) := by decide +kernel
theorem dX5_child_83 : decode cX5_child 83 = .ok (.iload_n 1, 1) := by decide +kernel
theorem dX5_child_84 : decode cX5_child 84 = .ok (.iaload, 1) := by decide +kernel
theorem dX5_child_85 : decode cX5_child 85 = .ok (.ireturn, 1) := by decide +kernel
theorem dX5_child_86 : decode cX5_child 86 = .ok (.aload_n 0, 1) := by decide +kernel
theorem dX5_child_87 : decode cX5_child 87 = .ok (.getfield 19, 3) := by decide +kernel
theorem dX5_child_90 : decode cX5_child 90 = .ok (.getfield 134, 3) := by decide +kernel
theorem dX5_child_93 : decode cX5_child 93 = .ok (.iload_n 1, 1) := by decide +kernel
theorem dX5_child_94 : decode cX5_child 94 = .ok (.iaload, 1) := by decide +kernel
theorem dX5_child_95 : decode cX5_child 95 = .ok (.ireturn, 1) := by decide +kernel
theorem dX5_child_96 : decode cX5_child 96 = .ok (.aload_n 0, 1) := by decide +kernel
theorem dX5_child_97 : decode cX5_child 97 = .ok (.getfield 19, 3) := by decide +kernel
theorem dX5_child_100 : decode cX5_child 100 = .ok (.getfield 137, 3) := by decide +kernel
theorem dX5_child_103 : decode cX5_child 103 = .ok (.iload_n 1, 1) := by decide +kernel
theorem dX5_child_104 : decode cX5_child 104 = .ok (.iaload, 1) := by decide +kernel
theorem dX5_child_105 : decode cX5_child 105 = .ok (.ireturn, 1) := by decide +kernel
theorem dX5_child_106 : decode cX5_child 106 = .ok (.aload_n 0, 1) := by decide +kernel
theorem dX5_child_107 : decode cX5_child 107 = .ok (.getfield 19, 3) := by decide +kernel
theorem dX5_child_110 : decode cX5_child 110 = .ok (.getfield 93, 3) := by decide +kernel
theorem dX5_child_113 : decode cX5_child 113 = .ok (.iload_n 1, 1) := by decide +kernel
theorem dX5_child_114 : decode cX5_child 114 = .ok (.iconst 2, 1) := by decide +kernel
theorem dX5_child_115 : decode cX5_child 115 = .ok (.invokevirtual 140, 3) := by decide +kernel
theorem dX5_child_118 : decode cX5_child 118 = .ok (.aload_n 0, 1) := by decide +kernel
theorem dX5_child_119 : decode cX5_child 119 = .ok (.getfield 19, 3) := by decide +kernel
theorem dX5_child_122 : decode cX5_child 122 = .ok (.getfield 93, 3) := by decide +kernel
theorem dX5_child_125 : decode cX5_child 125 = .ok (.iload_n 1, 1) := by decide +kernel
theorem dX5_child_126 : decode cX5_child 126 = .ok (.iconst 3, 1) := by decide +kernel
theorem dX5_child_127 : decode cX5_child 127 = .ok (.invokevirtual 140, 3) := by decide +kernel
theorem dX5_child_130 : decode cX5_child 130 = .ok (.iadd, 1) := by decide +kernel
theorem dX5_child_131 : decode cX5_child 131 = .ok (.ireturn, 1) := by decide +kernel
theorem dX5_child_132 : decode cX5_child 132 = .ok (.aload_n 0, 1) := by decide +kernel
theorem dX5_child_133 : decode cX5_child 133 = .ok (.getfield 19, 3) := by decide +kernel
theorem dX5_child_136 : decode cX5_child 136 = .ok (.getfield 93, 3) := by decide +kernel
theorem dX5_child_139 : decode cX5_child 139 = .ok (.iload_n 1, 1) := by decide +kernel
theorem dX5_child_140 : decode cX5_child 140 = .ok (.invokevirtual 144, 3) := by decide +kernel
theorem dX5_child_143 : decode cX5_child 143 = .ok (.ireturn, 1) := by decide +kernel
theorem dX5_child_144 : decode cX5_child 144 = .ok (.aload_n 0, 1) := by decide +kernel
theorem dX5_child_145 : decode cX5_child 145 = .ok (.getfield 19, 3) := by decide +kernel
theorem dX5_child_148 : decode cX5_child 148 = .ok (.getfield 93, 3) := by decide +kernel
theorem dX5_child_151 : decode cX5_child 151 = .ok (.iload_n 1, 1) := by decide +kernel
theorem dX5_child_152 : decode cX5_child 152 = .ok (.invokevirtual 147, 3) := by decide +kernel
theorem dX5_child_155 : decode cX5_child 155 = .ok (.ireturn, 1) := by decide +kernel
theorem dX5_child_156 : decode cX5_child 156 = .ok (.aload_n 0, 1) := by decide +kernel
theorem dX5_child_157 : decode cX5_child 157 = .ok (.getfield 19, 3) := by decide +kernel
theorem dX5_child_160 : decode cX5_child 160 = .ok (.getfield 93, 3) := by decide +kernel
theorem dX5_child_163 : decode cX5_child 163 = .ok (.iload_n 1, 1) := by decide +kernel
theorem dX5_child_164 : decode cX5_child 164 = .ok (.iconst 4, 1) := by decide +kernel
theorem dX5_child_165 : decode cX5_child 165 = .ok (.invokevirtual 140, 3) := by decide +kernel
theorem dX5_child_168 : decode cX5_child 168 = .ok (.ireturn, 1) := by decide +kernel
theorem dX5_child_169 : decode cX5_child 169 = .ok (.new 41, 3) := by decide +kernel
theorem dX5_child_172 : decode cX5_child 172 = .ok (.dup, 1) := by decide +kernel
theorem dX5_child_173 : decode cX5_child 173 = .ok (.ldc 150, 2) := by decide +kernel
theorem dX5_child_175 : decode cX5_child 175 = .ok (.invokespecial 45, 3) := by decide +kernel
theorem dX5_child_178 : decode cX5_child 178 = .ok (.athrow, 1) := by decide +kernel
set_option maxRecDepth 20000 in
theorem ggX5_family_X5_requireFamily : GoodIn wsX5_family wsX5_requireFamily := goodIn_ca (goodIn_r _ [9, 10, 11, 12, 13, 8, 14] (by decide +kernel) (by decide +kernel)) (goodIn_sub (fun _ h => List.mem_cons_of_mem _ (List.mem_append_right _ h)) (by decide +kernel))
set_option maxRecDepth 20000 in
theorem gX5_family_X5_requireFamily : GoodIn wsX5_family (va_wsS RX5 152 yX5_requireFamily wsX5_requireFamily) := goodIn_app (goodIn_of _ (by decide +kernel)) ggX5_family_X5_requireFamily
set_option maxRecDepth 20000 in
theorem ggX5_family_X2_childrenOf : GoodIn wsX5_family wsX2_childrenOf := goodIn_r _ [19, 20, 21, 37, 38, 39, 40, 41, 42, 43, 44, 45, 46, 47, 48, 49, 50] (by decide +kernel) (by decide +kernel)
set_option maxRecDepth 20000 in
theorem gX5_family_X2_childrenOf : GoodIn wsX5_family (wsV RX5 155 RX2 yX2_childrenOf wsX2_childrenOf) := goodIn_app (goodIn_of _ (by decide +kernel)) ggX5_family_X2_childrenOf
set_option maxRecDepth 20000 in
theorem ggX5_family_X2_sumOfBalancesOf : GoodIn wsX5_family wsX2_sumOfBalancesOf := goodIn_r _ [25, 20, 21, 26, 37, 38, 39, 40, 41, 42, 43, 44, 45, 46, 47, 48, 49, 50] (by decide +kernel) (by decide +kernel)
set_option maxRecDepth 20000 in
theorem gX5_family_X2_sumOfBalancesOf : GoodIn wsX5_family (wsV RX5 161 RX2 yX2_sumOfBalancesOf wsX2_sumOfBalancesOf) := goodIn_app (goodIn_of _ (by decide +kernel)) ggX5_family_X2_sumOfBalancesOf
set_option maxRecDepth 20000 in
theorem ggX5_family_X2_debtOf : GoodIn wsX5_family wsX2_debtOf := goodIn_r _ [30, 20, 21, 26, 37, 38, 39, 40, 41, 42, 43, 44, 45, 46, 47, 48, 49, 50] (by decide +kernel) (by decide +kernel)
set_option maxRecDepth 20000 in
theorem gX5_family_X2_debtOf : GoodIn wsX5_family (wsV RX5 164 RX2 yX2_debtOf wsX2_debtOf) := goodIn_app (goodIn_of _ (by decide +kernel)) ggX5_family_X2_debtOf
theorem dX5_family_0 : decode cX5_family 0 = .ok (.iload_n 1, 1) := by decide +kernel
theorem dX5_family_1 : decode cX5_family 1 = .ok (.invokestatic 152, 3) := by decide +kernel
theorem dX5_family_4 : decode cX5_family 4 = .ok (.iload_n 2, 1) := by decide +kernel
theorem dX5_family_5 : decode cX5_family 5 = .ok (.tableswitch 82 0 4 #[35, 44, 54, 63, 72], 35) := by decide +kernel
theorem dX5_family_40 : decode cX5_family 40 = .ok (.aload_n 0, 1) := by decide +kernel
theorem dX5_family_41 : decode cX5_family 41 = .ok (.getfield 19, 3) := by decide +kernel
theorem dX5_family_44 : decode cX5_family 44 = .ok (.iload_n 1, 1) := by decide +kernel
theorem dX5_family_45 : decode cX5_family 45 = .ok (.invokevirtual 155, 3) := by decide +kernel
theorem dX5_family_48 : decode cX5_family 48 = .ok (.ireturn, 1) := by decide +kernel
theorem dX5_family_49 : decode cX5_family 49 = .ok (.aload_n 0, 1) := by decide +kernel
theorem dX5_family_50 : decode cX5_family 50 = .ok (.getfield 19, 3) := by decide +kernel
theorem dX5_family_53 : decode cX5_family 53 = .ok (.getfield 158, 3) := by decide +kernel
theorem dX5_family_56 : decode cX5_family 56 = .ok (.iload_n 1, 1) := by decide +kernel
theorem dX5_family_57 : decode cX5_family 57 = .ok (.iaload, 1) := by decide +kernel
theorem dX5_family_58 : decode cX5_family 58 = .ok (.ireturn, 1) := by decide +kernel
theorem dX5_family_59 : decode cX5_family 59 = .ok (.aload_n 0, 1) := by decide +kernel
theorem dX5_family_60 : decode cX5_family 60 = .ok (.getfield 19, 3) := by decide +kernel
theorem dX5_family_63 : decode cX5_family 63 = .ok (.iload_n 1, 1) := by decide +kernel
theorem dX5_family_64 : decode cX5_family 64 = .ok (.invokevirtual 161, 3) := by decide +kernel
theorem dX5_family_67 : decode cX5_family 67 = .ok (.ireturn, 1) := by decide +kernel
theorem dX5_family_68 : decode cX5_family 68 = .ok (.aload_n 0, 1) := by decide +kernel
theorem dX5_family_69 : decode cX5_family 69 = .ok (.getfield 19, 3) := by decide +kernel
theorem dX5_family_72 : decode cX5_family 72 = .ok (.iload_n 1, 1) := by decide +kernel
theorem dX5_family_73 : decode cX5_family 73 = .ok (.invokevirtual 164, 3) := by decide +kernel
theorem dX5_family_76 : decode cX5_family 76 = .ok (.ireturn, 1) := by decide +kernel
theorem dX5_family_77 : decode cX5_family 77 = .ok (.aload_n 0, 1) := by decide +kernel
theorem dX5_family_78 : decode cX5_family 78 = .ok (.getfield 19, 3) := by decide +kernel
theorem dX5_family_81 : decode cX5_family 81 = .ok (.getfield 167, 3) := by decide +kernel
theorem dX5_family_84 : decode cX5_family 84 = .ok (.iload_n 1, 1) := by decide +kernel
theorem dX5_family_85 : decode cX5_family 85 = .ok (.iaload, 1) := by decide +kernel
theorem dX5_family_86 : decode cX5_family 86 = .ok (.ireturn, 1) := by decide +kernel
theorem dX5_family_87 : decode cX5_family 87 = .ok (.new 41, 3) := by decide +kernel
theorem dX5_family_90 : decode cX5_family 90 = .ok (.dup, 1) := by decide +kernel
theorem dX5_family_91 : decode cX5_family 91 = .ok (.ldc 170, 2) := by decide +kernel
theorem dX5_family_93 : decode cX5_family 93 = .ok (.invokespecial 45, 3) := by decide +kernel
theorem dX5_family_96 : decode cX5_family 96 = .ok (.athrow, 1) := by decide +kernel
set_option maxRecDepth 20000 in
theorem ggX5_day_X5_requireDay : GoodIn wsX5_day wsX5_requireDay := goodIn_ca (goodIn_r _ [9, 10, 11, 12, 13, 8, 14] (by decide +kernel) (by decide +kernel)) (goodIn_sub (fun _ h => List.mem_cons_of_mem _ (List.mem_append_right _ h)) (by decide +kernel))
set_option maxRecDepth 20000 in
theorem gX5_day_X5_requireDay : GoodIn wsX5_day (va_wsS RX5 172 yX5_requireDay wsX5_requireDay) := goodIn_app (goodIn_of _ (by decide +kernel)) ggX5_day_X5_requireDay
set_option maxRecDepth 20000 in
theorem ggX5_day_X3_countOrderedOn : GoodIn wsX5_day wsX3_countOrderedOn := goodIn_r _ [19, 20, 21, 22, 18, 23, 24, 25, 26, 27, 28, 29, 30, 31, 62, 63, 64] (by decide +kernel) (by decide +kernel)
set_option maxRecDepth 20000 in
theorem gX5_day_X3_countOrderedOn : GoodIn wsX5_day (wsV RX5 178 RX3 yX3_countOrderedOn wsX3_countOrderedOn) := goodIn_app (goodIn_of _ (by decide +kernel)) ggX5_day_X3_countOrderedOn
set_option maxRecDepth 20000 in
theorem ggX5_day_X3_countOn : GoodIn wsX5_day wsX3_countOn := goodIn_r _ [23, 24, 25, 26, 18, 27, 28, 29, 30, 31, 62, 63, 64] (by decide +kernel) (by decide +kernel)
set_option maxRecDepth 20000 in
theorem gX5_day_X3_countOn : GoodIn wsX5_day (wsV RX5 181 RX3 yX3_countOn wsX3_countOn) := goodIn_app (goodIn_of _ (by decide +kernel)) ggX5_day_X3_countOn
set_option maxRecDepth 20000 in
theorem ggX5_day_X3_chargedOn : GoodIn wsX5_day wsX3_chargedOn := goodIn_r _ [36, 24, 25, 26, 18, 27, 28, 29, 30, 31, 37, 38, 39, 40, 41, 62, 63, 64] (by decide +kernel) (by decide +kernel)
set_option maxRecDepth 20000 in
theorem gX5_day_X3_chargedOn : GoodIn wsX5_day (wsV RX5 184 RX3 yX3_chargedOn wsX3_chargedOn) := goodIn_app (goodIn_of _ (by decide +kernel)) ggX5_day_X3_chargedOn
theorem dX5_day_0 : decode cX5_day 0 = .ok (.iload_n 1, 1) := by decide +kernel
theorem dX5_day_1 : decode cX5_day 1 = .ok (.invokestatic 172, 3) := by decide +kernel
theorem dX5_day_4 : decode cX5_day 4 = .ok (.iload_n 2, 1) := by decide +kernel
theorem dX5_day_5 : decode cX5_day 5 = .ok (.tableswitch 91 0 3 #[31, 41, 53, 79], 31) := by decide +kernel
theorem dX5_day_36 : decode cX5_day 36 = .ok (.aload_n 0, 1) := by decide +kernel
theorem dX5_day_37 : decode cX5_day 37 = .ok (.getfield 19, 3) := by decide +kernel
theorem dX5_day_40 : decode cX5_day 40 = .ok (.getfield 175, 3) := by decide +kernel
theorem dX5_day_43 : decode cX5_day 43 = .ok (.iload_n 1, 1) := by decide +kernel
theorem dX5_day_44 : decode cX5_day 44 = .ok (.iaload, 1) := by decide +kernel
theorem dX5_day_45 : decode cX5_day 45 = .ok (.ireturn, 1) := by decide +kernel
theorem dX5_day_46 : decode cX5_day 46 = .ok (.aload_n 0, 1) := by decide +kernel
theorem dX5_day_47 : decode cX5_day 47 = .ok (.getfield 19, 3) := by decide +kernel
theorem dX5_day_50 : decode cX5_day 50 = .ok (.getfield 93, 3) := by decide +kernel
theorem dX5_day_53 : decode cX5_day 53 = .ok (.iload_n 1, 1) := by decide +kernel
theorem dX5_day_54 : decode cX5_day 54 = .ok (.invokevirtual 178, 3) := by decide +kernel
theorem dX5_day_57 : decode cX5_day 57 = .ok (.ireturn, 1) := by decide +kernel
theorem dX5_day_58 : decode cX5_day 58 = .ok (.aload_n 0, 1) := by decide +kernel
theorem dX5_day_59 : decode cX5_day 59 = .ok (.getfield 19, 3) := by decide +kernel
theorem dX5_day_62 : decode cX5_day 62 = .ok (.getfield 93, 3) := by decide +kernel
theorem dX5_day_65 : decode cX5_day 65 = .ok (.iload_n 1, 1) := by decide +kernel
theorem dX5_day_66 : decode cX5_day 66 = .ok (.iconst 2, 1) := by decide +kernel
theorem dX5_day_67 : decode cX5_day 67 = .ok (.invokevirtual 181, 3) := by decide +kernel
theorem dX5_day_70 : decode cX5_day 70 = .ok (.aload_n 0, 1) := by decide +kernel
theorem dX5_day_71 : decode cX5_day 71 = .ok (.getfield 19, 3) := by decide +kernel
theorem dX5_day_74 : decode cX5_day 74 = .ok (.getfield 93, 3) := by decide +kernel
theorem dX5_day_77 : decode cX5_day 77 = .ok (.iload_n 1, 1) := by decide +kernel
theorem dX5_day_78 : decode cX5_day 78 = .ok (.iconst 3, 1) := by decide +kernel
theorem dX5_day_79 : decode cX5_day 79 = .ok (.invokevirtual 181, 3) := by decide +kernel
theorem dX5_day_82 : decode cX5_day 82 = .ok (.iadd, 1) := by decide +kernel
theorem dX5_day_83 : decode cX5_day 83 = .ok (.ireturn, 1) := by decide +kernel
theorem dX5_day_84 : decode cX5_day 84 = .ok (.aload_n 0, 1) := by decide +kernel
theorem dX5_day_85 : decode cX5_day 85 = .ok (.getfield 19, 3) := by decide +kernel
theorem dX5_day_88 : decode cX5_day 88 = .ok (.getfield 93, 3) := by decide +kernel
theorem dX5_day_91 : decode cX5_day 91 = .ok (.iload_n 1, 1) := by decide +kernel
theorem dX5_day_92 : decode cX5_day 92 = .ok (.invokevirtual 184, 3) := by decide +kernel
theorem dX5_day_95 : decode cX5_day 95 = .ok (.ireturn, 1) := by decide +kernel
theorem dX5_day_96 : decode cX5_day 96 = .ok (.new 41, 3) := by decide +kernel
theorem dX5_day_99 : decode cX5_day 99 = .ok (.dup, 1) := by decide +kernel
theorem dX5_day_100 : decode cX5_day 100 = .ok (.ldc 187, 2) := by decide +kernel
theorem dX5_day_102 : decode cX5_day 102 = .ok (.invokespecial 45, 3) := by decide +kernel
theorem dX5_day_105 : decode cX5_day 105 = .ok (.athrow, 1) := by decide +kernel
set_option maxRecDepth 20000 in
theorem ggX5_meal_X5_requireChild : GoodIn wsX5_meal wsX5_requireChild := goodIn_ca (goodIn_r _ [9, 10, 11, 3, 12, 13, 14, 15, 16, 17, 43, 44, 45, 46, 47, 48, 49, 50, 51, 52, 53, 54, 55, 56, 57, 58, 59, 60, 61, 62] (by decide +kernel) (by decide +kernel)) (goodIn_sub (fun _ h => List.mem_cons_of_mem _ (List.mem_append_right _ h)) (by decide +kernel))
set_option maxRecDepth 20000 in
theorem gX5_meal_X5_requireChild : GoodIn wsX5_meal (wsV RX5 120 RX5 yX5_requireChild wsX5_requireChild) := goodIn_app (goodIn_of _ (by decide +kernel)) ggX5_meal_X5_requireChild
set_option maxRecDepth 20000 in
theorem ggX5_meal_X5_requireDay : GoodIn wsX5_meal wsX5_requireDay := goodIn_ca (goodIn_r _ [20, 10, 11, 21, 22, 8, 23] (by decide +kernel) (by decide +kernel)) (goodIn_sub (fun _ h => List.mem_cons_of_mem _ (List.mem_append_right _ h)) (by decide +kernel))
set_option maxRecDepth 20000 in
theorem gX5_meal_X5_requireDay : GoodIn wsX5_meal (va_wsS RX5 172 yX5_requireDay wsX5_requireDay) := goodIn_app (goodIn_of _ (by decide +kernel)) ggX5_meal_X5_requireDay
set_option maxRecDepth 20000 in
theorem ggX5_meal_X3_kindOf : GoodIn wsX5_meal wsX3_kindOf := goodIn_r _ [28, 29, 30, 31, 27, 32, 63, 64, 65] (by decide +kernel) (by decide +kernel)
set_option maxRecDepth 20000 in
theorem gX5_meal_X3_kindOf : GoodIn wsX5_meal (wsV RX5 189 RX3 yX3_kindOf wsX3_kindOf) := goodIn_app (goodIn_of _ (by decide +kernel)) ggX5_meal_X3_kindOf
set_option maxRecDepth 20000 in
theorem ggX5_meal_X3_chargeOf : GoodIn wsX5_meal wsX3_chargeOf := goodIn_r _ [36, 29, 37, 30, 31, 27, 32, 63, 64, 65] (by decide +kernel) (by decide +kernel)
set_option maxRecDepth 20000 in
theorem gX5_meal_X3_chargeOf : GoodIn wsX5_meal (wsV RX5 192 RX3 yX3_chargeOf wsX3_chargeOf) := goodIn_app (goodIn_of _ (by decide +kernel)) ggX5_meal_X3_chargeOf
set_option maxRecDepth 20000 in
theorem ggX5_meal_X3_payerOf : GoodIn wsX5_meal wsX3_payerOf := goodIn_r _ [41, 29, 42, 30, 31, 27, 32, 63, 64, 65] (by decide +kernel) (by decide +kernel)
set_option maxRecDepth 20000 in
theorem gX5_meal_X3_payerOf : GoodIn wsX5_meal (wsV RX5 195 RX3 yX3_payerOf wsX3_payerOf) := goodIn_app (goodIn_of _ (by decide +kernel)) ggX5_meal_X3_payerOf
theorem dX5_meal_0 : decode cX5_meal 0 = .ok (.aload_n 0, 1) := by decide +kernel
theorem dX5_meal_1 : decode cX5_meal 1 = .ok (.iload_n 1, 1) := by decide +kernel
theorem dX5_meal_2 : decode cX5_meal 2 = .ok (.invokevirtual 120, 3) := by decide +kernel
theorem dX5_meal_5 : decode cX5_meal 5 = .ok (.iload_n 2, 1) := by decide +kernel
theorem dX5_meal_6 : decode cX5_meal 6 = .ok (.invokestatic 172, 3) := by decide +kernel
theorem dX5_meal_9 : decode cX5_meal 9 = .ok (.iload_n 3, 1) := by decide +kernel
theorem dX5_meal_10 : decode cX5_meal 10 = .ok (.tableswitch 65 0 2 #[26, 39, 52], 26) := by decide +kernel
theorem dX5_meal_36 : decode cX5_meal 36 = .ok (.aload_n 0, 1) := by decide +kernel
theorem dX5_meal_37 : decode cX5_meal 37 = .ok (.getfield 19, 3) := by decide +kernel
theorem dX5_meal_40 : decode cX5_meal 40 = .ok (.getfield 93, 3) := by decide +kernel
theorem dX5_meal_43 : decode cX5_meal 43 = .ok (.iload_n 1, 1) := by decide +kernel
theorem dX5_meal_44 : decode cX5_meal 44 = .ok (.iload_n 2, 1) := by decide +kernel
theorem dX5_meal_45 : decode cX5_meal 45 = .ok (.invokevirtual 189, 3) := by decide +kernel
theorem dX5_meal_48 : decode cX5_meal 48 = .ok (.ireturn, 1) := by decide +kernel
theorem dX5_meal_49 : decode cX5_meal 49 = .ok (.aload_n 0, 1) := by decide +kernel
theorem dX5_meal_50 : decode cX5_meal 50 = .ok (.getfield 19, 3) := by decide +kernel
theorem dX5_meal_53 : decode cX5_meal 53 = .ok (.getfield 93, 3) := by decide +kernel
theorem dX5_meal_56 : decode cX5_meal 56 = .ok (.iload_n 1, 1) := by decide +kernel
theorem dX5_meal_57 : decode cX5_meal 57 = .ok (.iload_n 2, 1) := by decide +kernel
theorem dX5_meal_58 : decode cX5_meal 58 = .ok (.invokevirtual 192, 3) := by decide +kernel
theorem dX5_meal_61 : decode cX5_meal 61 = .ok (.ireturn, 1) := by decide +kernel
theorem dX5_meal_62 : decode cX5_meal 62 = .ok (.aload_n 0, 1) := by decide +kernel
theorem dX5_meal_63 : decode cX5_meal 63 = .ok (.getfield 19, 3) := by decide +kernel
theorem dX5_meal_66 : decode cX5_meal 66 = .ok (.getfield 93, 3) := by decide +kernel
theorem dX5_meal_69 : decode cX5_meal 69 = .ok (.iload_n 1, 1) := by decide +kernel
theorem dX5_meal_70 : decode cX5_meal 70 = .ok (.iload_n 2, 1) := by decide +kernel
theorem dX5_meal_71 : decode cX5_meal 71 = .ok (.invokevirtual 195, 3) := by decide +kernel
theorem dX5_meal_74 : decode cX5_meal 74 = .ok (.ireturn, 1) := by decide +kernel
theorem dX5_meal_75 : decode cX5_meal 75 = .ok (.new 41, 3) := by decide +kernel
theorem dX5_meal_78 : decode cX5_meal 78 = .ok (.dup, 1) := by decide +kernel
theorem dX5_meal_79 : decode cX5_meal 79 = .ok (.ldc 198, 2) := by decide +kernel
theorem dX5_meal_81 : decode cX5_meal 81 = .ok (.invokespecial 45, 3) := by decide +kernel
theorem dX5_meal_84 : decode cX5_meal 84 = .ok (.athrow, 1) := by decide +kernel
theorem dX5_setting_0 : decode cX5_setting 0 = .ok (.iload_n 1, 1) := by decide +kernel
theorem dX5_setting_1 : decode cX5_setting 1 = .ok (.lookupswitch 43 #[(0, 27), (1, 35)], 27) := by decide +kernel
theorem dX5_setting_28 : decode cX5_setting 28 = .ok (.aload_n 0, 1) := by decide +kernel
theorem dX5_setting_29 : decode cX5_setting 29 = .ok (.getfield 19, 3) := by decide +kernel
theorem dX5_setting_32 : decode cX5_setting 32 = .ok (.getfield 200, 3) := by decide +kernel
theorem dX5_setting_35 : decode cX5_setting 35 = .ok (.ireturn, 1) := by decide +kernel
theorem dX5_setting_36 : decode cX5_setting 36 = .ok (.aload_n 0, 1) := by decide +kernel
theorem dX5_setting_37 : decode cX5_setting 37 = .ok (.getfield 19, 3) := by decide +kernel
theorem dX5_setting_40 : decode cX5_setting 40 = .ok (.getfield 203, 3) := by decide +kernel
theorem dX5_setting_43 : decode cX5_setting 43 = .ok (.ireturn, 1) := by decide +kernel
theorem dX5_setting_44 : decode cX5_setting 44 = .ok (.new 41, 3) := by decide +kernel
theorem dX5_setting_47 : decode cX5_setting 47 = .ok (.dup, 1) := by decide +kernel
theorem dX5_setting_48 : decode cX5_setting 48 = .ok (.ldc 206, 2) := by decide +kernel
theorem dX5_setting_50 : decode cX5_setting 50 = .ok (.invokespecial 45, 3) := by decide +kernel
theorem dX5_setting_53 : decode cX5_setting 53 = .ok (.athrow, 1) := by decide +kernel
set_option maxRecDepth 20000 in
theorem ggX5_come_X2_faultOfCome : GoodIn wsX5_come wsX2_faultOfCome := goodIn_r _ [6, 7, 8, 9, 10, 77, 78, 79, 80, 81, 82, 83, 84, 85, 86, 87, 88, 89, 90] (by decide +kernel) (by decide +kernel)
set_option maxRecDepth 20000 in
theorem gX5_come_X2_faultOfCome : GoodIn wsX5_come (wsV RX5 208 RX2 yX2_faultOfCome wsX2_faultOfCome) := goodIn_app (goodIn_of _ (by decide +kernel)) ggX5_come_X2_faultOfCome
set_option maxRecDepth 20000 in
theorem ggX5_come_X5_beginAction : GoodIn wsX5_come wsX5_beginAction := goodIn_ca (goodIn_ca (goodIn_ca (goodIn_r _ [14, 15, 1, 16, 17, 9, 18, 19, 20, 21, 22, 23, 24, 25, 26, 27, 28, 29, 30, 31, 32, 33, 34, 35, 5, 36, 37, 7, 38, 39, 40, 41, 42, 43, 44, 45, 46, 47, 48, 49, 50, 51, 52, 53, 54, 55, 56, 57, 58, 59, 60, 61, 62, 63, 64, 65, 66, 71, 72, 73, 74, 75, 76, 91, 92, 93, 77, 78, 79, 80, 81, 82, 83, 84, 85, 86, 87, 88, 89, 90, 94, 95, 96] (by decide +kernel) (by decide +kernel)) (goodIn_sub (fun _ h => List.mem_cons_of_mem _ (List.mem_append_left _ (List.mem_append_left _ (List.mem_append_right _ h)))) (by decide +kernel))) (goodIn_sub (fun _ h => List.mem_cons_of_mem _ (List.mem_append_left _ (List.mem_append_right _ h))) (by decide +kernel))) (goodIn_sub (fun _ h => List.mem_cons_of_mem _ (List.mem_append_right _ h)) (by decide +kernel))
set_option maxRecDepth 20000 in
theorem gX5_come_X5_beginAction : GoodIn wsX5_come (wsV RX5 211 RX5 yX5_beginAction wsX5_beginAction) := goodIn_app (goodIn_of _ (by decide +kernel)) ggX5_come_X5_beginAction
set_option maxRecDepth 20000 in
theorem ggX5_come_X2_addChild : GoodIn wsX5_come wsX2_addChild := goodIn_r _ [70, 7, 41, 46, 57, 47, 48, 77, 78, 79, 80, 81, 82, 83, 84, 85, 86, 87, 88, 89, 90] (by decide +kernel) (by decide +kernel)
set_option maxRecDepth 20000 in
theorem gX5_come_X2_addChild : GoodIn wsX5_come (wsV RX5 214 RX2 yX2_addChild wsX2_addChild) := goodIn_app (goodIn_of _ (by decide +kernel)) ggX5_come_X2_addChild
theorem dX5_come_0 : decode cX5_come 0 = .ok (.aload_n 0, 1) := by decide +kernel
theorem dX5_come_1 : decode cX5_come 1 = .ok (.aload_n 0, 1) := by decide +kernel
theorem dX5_come_2 : decode cX5_come 2 = .ok (.getfield 19, 3) := by decide +kernel
theorem dX5_come_5 : decode cX5_come 5 = .ok (.iload_n 1, 1) := by decide +kernel
theorem dX5_come_6 : decode cX5_come 6 = .ok (.iload_n 2, 1) := by decide +kernel
theorem dX5_come_7 : decode cX5_come 7 = .ok (.invokevirtual 208, 3) := by decide +kernel
theorem dX5_come_10 : decode cX5_come 10 = .ok (.invokevirtual 211, 3) := by decide +kernel
theorem dX5_come_13 : decode cX5_come 13 = .ok (.aload_n 0, 1) := by decide +kernel
theorem dX5_come_14 : decode cX5_come 14 = .ok (.getfield 19, 3) := by decide +kernel
theorem dX5_come_17 : decode cX5_come 17 = .ok (.iload_n 1, 1) := by decide +kernel
theorem dX5_come_18 : decode cX5_come 18 = .ok (.iload_n 2, 1) := by decide +kernel
theorem dX5_come_19 : decode cX5_come 19 = .ok (.invokevirtual 214, 3) := by decide +kernel
theorem dX5_come_22 : decode cX5_come 22 = .ok (.ireturn, 1) := by decide +kernel
set_option maxRecDepth 20000 in
theorem ggX5_menu_X2_faultOfMenu : GoodIn wsX5_menu wsX2_faultOfMenu := goodIn_r _ [6, 7, 8, 9, 10, 77, 78, 79, 80, 81, 82, 83, 84, 85, 86, 87, 88, 89, 90] (by decide +kernel) (by decide +kernel)
set_option maxRecDepth 20000 in
theorem gX5_menu_X2_faultOfMenu : GoodIn wsX5_menu (wsV RX5 217 RX2 yX2_faultOfMenu wsX2_faultOfMenu) := goodIn_app (goodIn_of _ (by decide +kernel)) ggX5_menu_X2_faultOfMenu
set_option maxRecDepth 20000 in
theorem ggX5_menu_X5_beginAction : GoodIn wsX5_menu wsX5_beginAction := goodIn_ca (goodIn_ca (goodIn_ca (goodIn_r _ [14, 15, 1, 16, 17, 9, 18, 19, 20, 21, 22, 23, 24, 25, 26, 27, 28, 29, 30, 31, 32, 33, 34, 35, 5, 36, 7, 37, 38, 39, 40, 41, 42, 43, 44, 45, 46, 47, 48, 49, 50, 51, 52, 53, 54, 55, 56, 57, 58, 59, 60, 61, 62, 63, 64, 65, 66, 71, 72, 73, 74, 75, 76, 91, 92, 93, 77, 78, 79, 80, 81, 82, 83, 84, 85, 86, 87, 88, 89, 90, 94, 95, 96] (by decide +kernel) (by decide +kernel)) (goodIn_sub (fun _ h => List.mem_cons_of_mem _ (List.mem_append_left _ (List.mem_append_left _ (List.mem_append_right _ h)))) (by decide +kernel))) (goodIn_sub (fun _ h => List.mem_cons_of_mem _ (List.mem_append_left _ (List.mem_append_right _ h))) (by decide +kernel))) (goodIn_sub (fun _ h => List.mem_cons_of_mem _ (List.mem_append_right _ h)) (by decide +kernel))
set_option maxRecDepth 20000 in
theorem gX5_menu_X5_beginAction : GoodIn wsX5_menu (wsV RX5 211 RX5 yX5_beginAction wsX5_beginAction) := goodIn_app (goodIn_of _ (by decide +kernel)) ggX5_menu_X5_beginAction
set_option maxRecDepth 20000 in
theorem ggX5_menu_X2_changeMenu : GoodIn wsX5_menu wsX2_changeMenu := goodIn_r _ [70, 49, 77, 78, 79, 80, 81, 82, 83, 84, 85, 86, 87, 88, 89, 90] (by decide +kernel) (by decide +kernel)
set_option maxRecDepth 20000 in
theorem gX5_menu_X2_changeMenu : GoodIn wsX5_menu (wsV RX5 220 RX2 yX2_changeMenu wsX2_changeMenu) := goodIn_app (goodIn_of _ (by decide +kernel)) ggX5_menu_X2_changeMenu
theorem dX5_menu_0 : decode cX5_menu 0 = .ok (.aload_n 0, 1) := by decide +kernel
theorem dX5_menu_1 : decode cX5_menu 1 = .ok (.aload_n 0, 1) := by decide +kernel
theorem dX5_menu_2 : decode cX5_menu 2 = .ok (.getfield 19, 3) := by decide +kernel
theorem dX5_menu_5 : decode cX5_menu 5 = .ok (.iload_n 1, 1) := by decide +kernel
theorem dX5_menu_6 : decode cX5_menu 6 = .ok (.iload_n 2, 1) := by decide +kernel
theorem dX5_menu_7 : decode cX5_menu 7 = .ok (.invokevirtual 217, 3) := by decide +kernel
theorem dX5_menu_10 : decode cX5_menu 10 = .ok (.invokevirtual 211, 3) := by decide +kernel
theorem dX5_menu_13 : decode cX5_menu 13 = .ok (.aload_n 0, 1) := by decide +kernel
theorem dX5_menu_14 : decode cX5_menu 14 = .ok (.getfield 19, 3) := by decide +kernel
theorem dX5_menu_17 : decode cX5_menu 17 = .ok (.iload_n 1, 1) := by decide +kernel
theorem dX5_menu_18 : decode cX5_menu 18 = .ok (.iload_n 2, 1) := by decide +kernel
theorem dX5_menu_19 : decode cX5_menu 19 = .ok (.invokevirtual 220, 3) := by decide +kernel
theorem dX5_menu_22 : decode cX5_menu 22 = .ok (.ireturn, 1) := by decide +kernel
set_option maxRecDepth 20000 in
theorem ggX5_order_X2_faultOfOrder : GoodIn wsX5_order wsX2_faultOfOrder := goodIn_r _ [6, 7, 8, 9, 10, 5, 11, 12, 13, 14, 15, 100, 101, 102, 103, 104, 105, 106, 107, 108, 109, 110, 111, 112, 113] (by decide +kernel) (by decide +kernel)
set_option maxRecDepth 20000 in
theorem gX5_order_X2_faultOfOrder : GoodIn wsX5_order (wsV RX5 223 RX2 yX2_faultOfOrder wsX2_faultOfOrder) := goodIn_app (goodIn_of _ (by decide +kernel)) ggX5_order_X2_faultOfOrder
set_option maxRecDepth 20000 in
theorem ggX5_order_X5_beginAction : GoodIn wsX5_order wsX5_beginAction := goodIn_ca (goodIn_ca (goodIn_ca (goodIn_r _ [19, 20, 1, 21, 22, 14, 23, 24, 25, 26, 27, 28, 29, 30, 31, 32, 33, 34, 35, 36, 37, 38, 39, 40, 5, 41, 7, 12, 42, 43, 44, 45, 46, 47, 48, 49, 50, 51, 52, 53, 54, 55, 56, 57, 58, 59, 60, 61, 62, 63, 64, 65, 66, 67, 68, 69, 70, 94, 95, 96, 97, 98, 99, 114, 115, 116, 100, 101, 102, 103, 104, 105, 106, 107, 108, 109, 110, 111, 112, 113, 117, 118, 119] (by decide +kernel) (by decide +kernel)) (goodIn_sub (fun _ h => List.mem_cons_of_mem _ (List.mem_append_left _ (List.mem_append_left _ (List.mem_append_right _ h)))) (by decide +kernel))) (goodIn_sub (fun _ h => List.mem_cons_of_mem _ (List.mem_append_left _ (List.mem_append_right _ h))) (by decide +kernel))) (goodIn_sub (fun _ h => List.mem_cons_of_mem _ (List.mem_append_right _ h)) (by decide +kernel))
set_option maxRecDepth 20000 in
theorem gX5_order_X5_beginAction : GoodIn wsX5_order (wsV RX5 211 RX5 yX5_beginAction wsX5_beginAction) := goodIn_app (goodIn_of _ (by decide +kernel)) ggX5_order_X5_beginAction
set_option maxRecDepth 20000 in
theorem ggX5_order_X2_changeOrder : GoodIn wsX5_order wsX2_changeOrder := goodIn_r _ [74, 56, 75, 76, 77, 65, 78, 67, 79, 80, 81, 82, 83, 84, 85, 86, 87, 88, 89, 90, 91, 92, 93, 100, 101, 102, 103, 104, 105, 106, 107, 108, 109, 110, 111, 112, 113, 117, 118, 119] (by decide +kernel) (by decide +kernel)
set_option maxRecDepth 20000 in
theorem gX5_order_X2_changeOrder : GoodIn wsX5_order (wsV RX5 226 RX2 yX2_changeOrder wsX2_changeOrder) := goodIn_app (goodIn_of _ (by decide +kernel)) ggX5_order_X2_changeOrder
theorem dX5_order_0 : decode cX5_order 0 = .ok (.aload_n 0, 1) := by decide +kernel
theorem dX5_order_1 : decode cX5_order 1 = .ok (.aload_n 0, 1) := by decide +kernel
theorem dX5_order_2 : decode cX5_order 2 = .ok (.getfield 19, 3) := by decide +kernel
theorem dX5_order_5 : decode cX5_order 5 = .ok (.iload_n 1, 1) := by decide +kernel
theorem dX5_order_6 : decode cX5_order 6 = .ok (.iload_n 2, 1) := by decide +kernel
theorem dX5_order_7 : decode cX5_order 7 = .ok (.invokevirtual 223, 3) := by decide +kernel
theorem dX5_order_10 : decode cX5_order 10 = .ok (.invokevirtual 211, 3) := by decide +kernel
theorem dX5_order_13 : decode cX5_order 13 = .ok (.aload_n 0, 1) := by decide +kernel
theorem dX5_order_14 : decode cX5_order 14 = .ok (.getfield 19, 3) := by decide +kernel
theorem dX5_order_17 : decode cX5_order 17 = .ok (.iload_n 1, 1) := by decide +kernel
theorem dX5_order_18 : decode cX5_order 18 = .ok (.iload_n 2, 1) := by decide +kernel
theorem dX5_order_19 : decode cX5_order 19 = .ok (.iload_n 3, 1) := by decide +kernel
theorem dX5_order_20 : decode cX5_order 20 = .ok (.invokevirtual 226, 3) := by decide +kernel
theorem dX5_order_23 : decode cX5_order 23 = .ok (.ireturn, 1) := by decide +kernel
set_option maxRecDepth 20000 in
theorem ggX5_pay_X2_faultOfPay : GoodIn wsX5_pay wsX2_faultOfPay := goodIn_r _ [6, 7, 8, 9, 10, 5, 11, 12, 79, 80, 81, 82, 83, 84, 85, 86, 87, 88, 89, 90, 91, 92] (by decide +kernel) (by decide +kernel)
set_option maxRecDepth 20000 in
theorem gX5_pay_X2_faultOfPay : GoodIn wsX5_pay (wsV RX5 230 RX2 yX2_faultOfPay wsX2_faultOfPay) := goodIn_app (goodIn_of _ (by decide +kernel)) ggX5_pay_X2_faultOfPay
set_option maxRecDepth 20000 in
theorem ggX5_pay_X5_beginAction : GoodIn wsX5_pay wsX5_beginAction := goodIn_ca (goodIn_ca (goodIn_ca (goodIn_r _ [17, 18, 1, 19, 20, 16, 21, 22, 23, 24, 25, 26, 27, 28, 29, 30, 31, 32, 33, 34, 35, 36, 37, 38, 5, 39, 40, 12, 41, 42, 43, 44, 45, 46, 47, 48, 49, 50, 51, 52, 53, 54, 55, 56, 57, 58, 59, 7, 60, 61, 62, 63, 64, 65, 66, 67, 68, 73, 74, 75, 76, 77, 78, 93, 94, 95, 79, 80, 81, 82, 83, 84, 85, 86, 87, 88, 89, 90, 91, 92, 96, 97, 98] (by decide +kernel) (by decide +kernel)) (goodIn_sub (fun _ h => List.mem_cons_of_mem _ (List.mem_append_left _ (List.mem_append_left _ (List.mem_append_right _ h)))) (by decide +kernel))) (goodIn_sub (fun _ h => List.mem_cons_of_mem _ (List.mem_append_left _ (List.mem_append_right _ h))) (by decide +kernel))) (goodIn_sub (fun _ h => List.mem_cons_of_mem _ (List.mem_append_right _ h)) (by decide +kernel))
set_option maxRecDepth 20000 in
theorem gX5_pay_X5_beginAction : GoodIn wsX5_pay (wsV RX5 211 RX5 yX5_beginAction wsX5_beginAction) := goodIn_app (goodIn_of _ (by decide +kernel)) ggX5_pay_X5_beginAction
set_option maxRecDepth 20000 in
theorem ggX5_pay_X2_payIn : GoodIn wsX5_pay wsX2_payIn := goodIn_r _ [72, 43, 7, 79, 80, 81, 82, 83, 84, 85, 86, 87, 88, 89, 90, 91, 92] (by decide +kernel) (by decide +kernel)
set_option maxRecDepth 20000 in
theorem gX5_pay_X2_payIn : GoodIn wsX5_pay (wsV RX5 233 RX2 yX2_payIn wsX2_payIn) := goodIn_app (goodIn_of _ (by decide +kernel)) ggX5_pay_X2_payIn
theorem dX5_pay_0 : decode cX5_pay 0 = .ok (.aload_n 0, 1) := by decide +kernel
theorem dX5_pay_1 : decode cX5_pay 1 = .ok (.aload_n 0, 1) := by decide +kernel
theorem dX5_pay_2 : decode cX5_pay 2 = .ok (.getfield 19, 3) := by decide +kernel
theorem dX5_pay_5 : decode cX5_pay 5 = .ok (.iload_n 1, 1) := by decide +kernel
theorem dX5_pay_6 : decode cX5_pay 6 = .ok (.iload_n 2, 1) := by decide +kernel
theorem dX5_pay_7 : decode cX5_pay 7 = .ok (.invokevirtual 230, 3) := by decide +kernel
theorem dX5_pay_10 : decode cX5_pay 10 = .ok (.invokevirtual 211, 3) := by decide +kernel
theorem dX5_pay_13 : decode cX5_pay 13 = .ok (.aload_n 0, 1) := by decide +kernel
theorem dX5_pay_14 : decode cX5_pay 14 = .ok (.getfield 19, 3) := by decide +kernel
theorem dX5_pay_17 : decode cX5_pay 17 = .ok (.iload_n 1, 1) := by decide +kernel
theorem dX5_pay_18 : decode cX5_pay 18 = .ok (.iload_n 2, 1) := by decide +kernel
theorem dX5_pay_19 : decode cX5_pay 19 = .ok (.invokevirtual 233, 3) := by decide +kernel
theorem dX5_pay_22 : decode cX5_pay 22 = .ok (.ireturn, 1) := by decide +kernel
set_option maxRecDepth 20000 in
theorem ggX5_move_X2_faultOfMove : GoodIn wsX5_move wsX2_faultOfMove := goodIn_r _ [6, 7, 8, 9, 10, 11, 5, 12, 13, 79, 80, 81, 82, 83, 84, 85, 86, 87, 88, 89, 90, 91, 92] (by decide +kernel) (by decide +kernel)
set_option maxRecDepth 20000 in
theorem gX5_move_X2_faultOfMove : GoodIn wsX5_move (wsV RX5 236 RX2 yX2_faultOfMove wsX2_faultOfMove) := goodIn_app (goodIn_of _ (by decide +kernel)) ggX5_move_X2_faultOfMove
set_option maxRecDepth 20000 in
theorem ggX5_move_X5_beginAction : GoodIn wsX5_move wsX5_beginAction := goodIn_ca (goodIn_ca (goodIn_ca (goodIn_r _ [18, 19, 1, 20, 21, 17, 22, 23, 24, 25, 26, 27, 28, 29, 30, 31, 32, 33, 34, 35, 36, 37, 38, 39, 5, 40, 41, 13, 42, 43, 44, 7, 45, 46, 47, 48, 49, 50, 51, 52, 53, 54, 55, 56, 57, 58, 59, 8, 60, 61, 62, 63, 64, 65, 66, 67, 68, 73, 74, 75, 76, 77, 78, 93, 94, 95, 79, 80, 81, 82, 83, 84, 85, 86, 87, 88, 89, 90, 91, 92, 96, 97, 98] (by decide +kernel) (by decide +kernel)) (goodIn_sub (fun _ h => List.mem_cons_of_mem _ (List.mem_append_left _ (List.mem_append_left _ (List.mem_append_right _ h)))) (by decide +kernel))) (goodIn_sub (fun _ h => List.mem_cons_of_mem _ (List.mem_append_left _ (List.mem_append_right _ h))) (by decide +kernel))) (goodIn_sub (fun _ h => List.mem_cons_of_mem _ (List.mem_append_right _ h)) (by decide +kernel))
set_option maxRecDepth 20000 in
theorem gX5_move_X5_beginAction : GoodIn wsX5_move (wsV RX5 211 RX5 yX5_beginAction wsX5_beginAction) := goodIn_app (goodIn_of _ (by decide +kernel)) ggX5_move_X5_beginAction
set_option maxRecDepth 20000 in
theorem ggX5_move_X2_moveBetween : GoodIn wsX5_move wsX2_moveBetween := goodIn_r _ [72, 8, 79, 80, 81, 82, 83, 84, 85, 86, 87, 88, 89, 90, 91, 92] (by decide +kernel) (by decide +kernel)
set_option maxRecDepth 20000 in
theorem gX5_move_X2_moveBetween : GoodIn wsX5_move (wsV RX5 240 RX2 yX2_moveBetween wsX2_moveBetween) := goodIn_app (goodIn_of _ (by decide +kernel)) ggX5_move_X2_moveBetween
theorem dX5_move_0 : decode cX5_move 0 = .ok (.aload_n 0, 1) := by decide +kernel
theorem dX5_move_1 : decode cX5_move 1 = .ok (.aload_n 0, 1) := by decide +kernel
theorem dX5_move_2 : decode cX5_move 2 = .ok (.getfield 19, 3) := by decide +kernel
theorem dX5_move_5 : decode cX5_move 5 = .ok (.iload_n 1, 1) := by decide +kernel
theorem dX5_move_6 : decode cX5_move 6 = .ok (.iload_n 2, 1) := by decide +kernel
theorem dX5_move_7 : decode cX5_move 7 = .ok (.iload_n 3, 1) := by decide +kernel
theorem dX5_move_8 : decode cX5_move 8 = .ok (.invokevirtual 236, 3) := by decide +kernel
theorem dX5_move_11 : decode cX5_move 11 = .ok (.invokevirtual 211, 3) := by decide +kernel
theorem dX5_move_14 : decode cX5_move 14 = .ok (.aload_n 0, 1) := by decide +kernel
theorem dX5_move_15 : decode cX5_move 15 = .ok (.getfield 19, 3) := by decide +kernel
theorem dX5_move_18 : decode cX5_move 18 = .ok (.iload_n 1, 1) := by decide +kernel
theorem dX5_move_19 : decode cX5_move 19 = .ok (.iload_n 2, 1) := by decide +kernel
theorem dX5_move_20 : decode cX5_move 20 = .ok (.iload_n 3, 1) := by decide +kernel
theorem dX5_move_21 : decode cX5_move 21 = .ok (.invokevirtual 240, 3) := by decide +kernel
theorem dX5_move_24 : decode cX5_move 24 = .ok (.ireturn, 1) := by decide +kernel
set_option maxRecDepth 20000 in
theorem ggX5_share_X2_faultOfShare : GoodIn wsX5_share wsX2_faultOfShare := goodIn_r _ [6, 7, 8, 9] (by decide +kernel) (by decide +kernel)
set_option maxRecDepth 20000 in
theorem gX5_share_X2_faultOfShare : GoodIn wsX5_share (wsV RX5 243 RX2 yX2_faultOfShare wsX2_faultOfShare) := goodIn_app (goodIn_of _ (by decide +kernel)) ggX5_share_X2_faultOfShare
set_option maxRecDepth 20000 in
theorem ggX5_share_X5_beginAction : GoodIn wsX5_share wsX5_beginAction := goodIn_ca (goodIn_ca (goodIn_ca (goodIn_r _ [13, 14, 1, 15, 16, 8, 17, 18, 19, 20, 21, 22, 23, 24, 25, 26, 27, 28, 29, 30, 31, 32, 33, 34, 5, 35, 36, 37, 38, 39, 40, 41, 42, 43, 44, 45, 46, 47, 48, 49, 50, 51, 52, 53, 54, 55, 56, 57, 58, 59, 60, 61, 62, 63, 64, 65, 66, 75, 76, 77, 78, 79, 80, 81, 82, 83, 84, 85, 86, 87, 88, 89, 90, 91, 92, 93, 94, 95, 96, 97, 98, 99, 100] (by decide +kernel) (by decide +kernel)) (goodIn_sub (fun _ h => List.mem_cons_of_mem _ (List.mem_append_left _ (List.mem_append_left _ (List.mem_append_right _ h)))) (by decide +kernel))) (goodIn_sub (fun _ h => List.mem_cons_of_mem _ (List.mem_append_left _ (List.mem_append_right _ h))) (by decide +kernel))) (goodIn_sub (fun _ h => List.mem_cons_of_mem _ (List.mem_append_right _ h)) (by decide +kernel))
set_option maxRecDepth 20000 in
theorem gX5_share_X5_beginAction : GoodIn wsX5_share (wsV RX5 211 RX5 yX5_beginAction wsX5_beginAction) := goodIn_app (goodIn_of _ (by decide +kernel)) ggX5_share_X5_beginAction
set_option maxRecDepth 20000 in
theorem ggX5_share_X2_changeSharing : GoodIn wsX5_share wsX2_changeSharing := goodIn_r _ [70, 50, 71, 72, 73, 5, 74, 37, 41, 57, 84, 85, 86, 87, 88, 89, 90, 91, 92, 93, 94, 95, 96, 97] (by decide +kernel) (by decide +kernel)
set_option maxRecDepth 20000 in
theorem gX5_share_X2_changeSharing : GoodIn wsX5_share (wsV RX5 246 RX2 yX2_changeSharing wsX2_changeSharing) := goodIn_app (goodIn_of _ (by decide +kernel)) ggX5_share_X2_changeSharing
theorem dX5_share_0 : decode cX5_share 0 = .ok (.aload_n 0, 1) := by decide +kernel
theorem dX5_share_1 : decode cX5_share 1 = .ok (.aload_n 0, 1) := by decide +kernel
theorem dX5_share_2 : decode cX5_share 2 = .ok (.getfield 19, 3) := by decide +kernel
theorem dX5_share_5 : decode cX5_share 5 = .ok (.iload_n 1, 1) := by decide +kernel
theorem dX5_share_6 : decode cX5_share 6 = .ok (.invokevirtual 243, 3) := by decide +kernel
theorem dX5_share_9 : decode cX5_share 9 = .ok (.invokevirtual 211, 3) := by decide +kernel
theorem dX5_share_12 : decode cX5_share 12 = .ok (.aload_n 0, 1) := by decide +kernel
theorem dX5_share_13 : decode cX5_share 13 = .ok (.getfield 19, 3) := by decide +kernel
theorem dX5_share_16 : decode cX5_share 16 = .ok (.iload_n 1, 1) := by decide +kernel
theorem dX5_share_17 : decode cX5_share 17 = .ok (.iload_n 2, 1) := by decide +kernel
theorem dX5_share_18 : decode cX5_share 18 = .ok (.invokevirtual 246, 3) := by decide +kernel
theorem dX5_share_21 : decode cX5_share 21 = .ok (.ireturn, 1) := by decide +kernel
set_option maxRecDepth 20000 in
theorem ggX5_entitle_X2_faultOfEntitle : GoodIn wsX5_entitle wsX2_faultOfEntitle := goodIn_r _ [6, 7, 8, 9, 5, 10, 11, 12, 13, 14, 116, 117, 118, 119, 120, 121, 122, 123, 124, 125, 126, 127, 128, 129] (by decide +kernel) (by decide +kernel)
set_option maxRecDepth 20000 in
theorem gX5_entitle_X2_faultOfEntitle : GoodIn wsX5_entitle (wsV RX5 250 RX2 yX2_faultOfEntitle wsX2_faultOfEntitle) := goodIn_app (goodIn_of _ (by decide +kernel)) ggX5_entitle_X2_faultOfEntitle
set_option maxRecDepth 20000 in
theorem ggX5_entitle_X5_beginAction : GoodIn wsX5_entitle wsX5_beginAction := goodIn_ca (goodIn_ca (goodIn_ca (goodIn_r _ [18, 19, 1, 20, 21, 13, 22, 23, 24, 25, 26, 27, 28, 29, 30, 31, 32, 33, 34, 35, 36, 37, 38, 39, 5, 40, 41, 11, 42, 43, 44, 45, 46, 47, 48, 49, 50, 51, 52, 53, 54, 55, 56, 57, 58, 59, 60, 61, 62, 63, 64, 65, 66, 67, 68, 69, 70, 110, 111, 112, 113, 114, 115, 130, 131, 132, 116, 117, 118, 119, 120, 121, 122, 123, 124, 125, 126, 127, 128, 129, 133, 134, 135] (by decide +kernel) (by decide +kernel)) (goodIn_sub (fun _ h => List.mem_cons_of_mem _ (List.mem_append_left _ (List.mem_append_left _ (List.mem_append_right _ h)))) (by decide +kernel))) (goodIn_sub (fun _ h => List.mem_cons_of_mem _ (List.mem_append_left _ (List.mem_append_right _ h))) (by decide +kernel))) (goodIn_sub (fun _ h => List.mem_cons_of_mem _ (List.mem_append_right _ h)) (by decide +kernel))
set_option maxRecDepth 20000 in
theorem gX5_entitle_X5_beginAction : GoodIn wsX5_entitle (wsV RX5 211 RX5 yX5_beginAction wsX5_beginAction) := goodIn_app (goodIn_of _ (by decide +kernel)) ggX5_entitle_X5_beginAction
set_option maxRecDepth 20000 in
theorem ggX5_entitle_X2_changeEntitlement : GoodIn wsX5_entitle wsX2_changeEntitlement := goodIn_r _ [74, 51, 52, 41, 75, 76, 77, 5, 78, 11, 61, 79, 80, 81, 82, 56, 42, 83, 84, 85, 65, 86, 67, 70, 87, 88, 89, 90, 91, 92, 93, 94, 95, 96, 97, 69, 98, 99, 100, 101, 102, 103, 104, 105, 106, 107, 108, 109, 116, 117, 118, 119, 120, 121, 122, 123, 124, 125, 126, 127, 128, 129, 133, 134, 135] (by decide +kernel) (by decide +kernel)
set_option maxRecDepth 20000 in
theorem gX5_entitle_X2_changeEntitlement : GoodIn wsX5_entitle (wsV RX5 253 RX2 yX2_changeEntitlement wsX2_changeEntitlement) := goodIn_app (goodIn_of _ (by decide +kernel)) ggX5_entitle_X2_changeEntitlement
theorem dX5_entitle_0 : decode cX5_entitle 0 = .ok (.aload_n 0, 1) := by decide +kernel
theorem dX5_entitle_1 : decode cX5_entitle 1 = .ok (.aload_n 0, 1) := by decide +kernel
theorem dX5_entitle_2 : decode cX5_entitle 2 = .ok (.getfield 19, 3) := by decide +kernel
theorem dX5_entitle_5 : decode cX5_entitle 5 = .ok (.iload_n 1, 1) := by decide +kernel
theorem dX5_entitle_6 : decode cX5_entitle 6 = .ok (.iload_n 2, 1) := by decide +kernel
theorem dX5_entitle_7 : decode cX5_entitle 7 = .ok (.iload_n 3, 1) := by decide +kernel
theorem dX5_entitle_8 : decode cX5_entitle 8 = .ok (.invokevirtual 250, 3) := by decide +kernel
theorem dX5_entitle_11 : decode cX5_entitle 11 = .ok (.invokevirtual 211, 3) := by decide +kernel
theorem dX5_entitle_14 : decode cX5_entitle 14 = .ok (.aload_n 0, 1) := by decide +kernel
theorem dX5_entitle_15 : decode cX5_entitle 15 = .ok (.getfield 19, 3) := by decide +kernel
theorem dX5_entitle_18 : decode cX5_entitle 18 = .ok (.iload_n 1, 1) := by decide +kernel
theorem dX5_entitle_19 : decode cX5_entitle 19 = .ok (.iload_n 2, 1) := by decide +kernel
theorem dX5_entitle_20 : decode cX5_entitle 20 = .ok (.iload_n 3, 1) := by decide +kernel
theorem dX5_entitle_21 : decode cX5_entitle 21 = .ok (.invokevirtual 253, 3) := by decide +kernel
theorem dX5_entitle_24 : decode cX5_entitle 24 = .ok (.ireturn, 1) := by decide +kernel
set_option maxRecDepth 20000 in
theorem ggX5_writeOff_X2_faultOfWriteOff : GoodIn wsX5_writeOff wsX2_faultOfWriteOff := goodIn_r _ [6, 7, 8, 9, 10, 11, 12, 5, 13, 14, 15, 16, 81, 82, 83, 84, 85, 86, 87, 88, 89, 90, 91, 92, 93, 94] (by decide +kernel) (by decide +kernel)
set_option maxRecDepth 20000 in
theorem gX5_writeOff_X2_faultOfWriteOff : GoodIn wsX5_writeOff (wsV RX5 256 RX2 yX2_faultOfWriteOff wsX2_faultOfWriteOff) := goodIn_app (goodIn_of _ (by decide +kernel)) ggX5_writeOff_X2_faultOfWriteOff
set_option maxRecDepth 20000 in
theorem ggX5_writeOff_X5_beginAction : GoodIn wsX5_writeOff wsX5_beginAction := goodIn_ca (goodIn_ca (goodIn_ca (goodIn_r _ [20, 21, 1, 22, 23, 8, 24, 25, 26, 27, 28, 29, 30, 31, 32, 33, 34, 35, 36, 37, 38, 39, 40, 41, 5, 42, 43, 14, 44, 45, 46, 15, 47, 48, 49, 50, 51, 52, 53, 54, 55, 56, 57, 58, 59, 60, 61, 16, 62, 63, 64, 65, 66, 67, 68, 69, 70, 75, 76, 77, 78, 79, 80, 95, 96, 97, 81, 82, 83, 84, 85, 86, 87, 88, 89, 90, 91, 92, 93, 94, 98, 99, 100] (by decide +kernel) (by decide +kernel)) (goodIn_sub (fun _ h => List.mem_cons_of_mem _ (List.mem_append_left _ (List.mem_append_left _ (List.mem_append_right _ h)))) (by decide +kernel))) (goodIn_sub (fun _ h => List.mem_cons_of_mem _ (List.mem_append_left _ (List.mem_append_right _ h))) (by decide +kernel))) (goodIn_sub (fun _ h => List.mem_cons_of_mem _ (List.mem_append_right _ h)) (by decide +kernel))
set_option maxRecDepth 20000 in
theorem gX5_writeOff_X5_beginAction : GoodIn wsX5_writeOff (wsV RX5 211 RX5 yX5_beginAction wsX5_beginAction) := goodIn_app (goodIn_of _ (by decide +kernel)) ggX5_writeOff_X5_beginAction
set_option maxRecDepth 20000 in
theorem ggX5_writeOff_X2_writeDebtOff : GoodIn wsX5_writeOff wsX2_writeDebtOff := goodIn_r _ [74, 14, 15, 16, 56, 10, 11, 12, 5, 13, 81, 82, 83, 84, 85, 86, 87, 88, 89, 90, 91, 92, 93, 94] (by decide +kernel) (by decide +kernel)
set_option maxRecDepth 20000 in
theorem gX5_writeOff_X2_writeDebtOff : GoodIn wsX5_writeOff (wsV RX5 259 RX2 yX2_writeDebtOff wsX2_writeDebtOff) := goodIn_app (goodIn_of _ (by decide +kernel)) ggX5_writeOff_X2_writeDebtOff
theorem dX5_writeOff_0 : decode cX5_writeOff 0 = .ok (.aload_n 0, 1) := by decide +kernel
theorem dX5_writeOff_1 : decode cX5_writeOff 1 = .ok (.aload_n 0, 1) := by decide +kernel
theorem dX5_writeOff_2 : decode cX5_writeOff 2 = .ok (.getfield 19, 3) := by decide +kernel
theorem dX5_writeOff_5 : decode cX5_writeOff 5 = .ok (.iload_n 1, 1) := by decide +kernel
theorem dX5_writeOff_6 : decode cX5_writeOff 6 = .ok (.invokevirtual 256, 3) := by decide +kernel
theorem dX5_writeOff_9 : decode cX5_writeOff 9 = .ok (.invokevirtual 211, 3) := by decide +kernel
theorem dX5_writeOff_12 : decode cX5_writeOff 12 = .ok (.aload_n 0, 1) := by decide +kernel
theorem dX5_writeOff_13 : decode cX5_writeOff 13 = .ok (.getfield 19, 3) := by decide +kernel
theorem dX5_writeOff_16 : decode cX5_writeOff 16 = .ok (.iload_n 1, 1) := by decide +kernel
theorem dX5_writeOff_17 : decode cX5_writeOff 17 = .ok (.invokevirtual 259, 3) := by decide +kernel
theorem dX5_writeOff_20 : decode cX5_writeOff 20 = .ok (.ireturn, 1) := by decide +kernel
set_option maxRecDepth 20000 in
theorem ggX5_days_X2_faultOfDays : GoodIn wsX5_days wsX2_faultOfDays := goodIn_r _ [6, 7, 8, 9, 5, 10, 11, 118, 119, 120, 121, 122, 123, 124, 125, 126, 127, 128, 129, 130, 131] (by decide +kernel) (by decide +kernel)
set_option maxRecDepth 20000 in
theorem gX5_days_X2_faultOfDays : GoodIn wsX5_days (wsV RX5 262 RX2 yX2_faultOfDays wsX2_faultOfDays) := goodIn_app (goodIn_of _ (by decide +kernel)) ggX5_days_X2_faultOfDays
set_option maxRecDepth 20000 in
theorem ggX5_days_X5_beginAction : GoodIn wsX5_days wsX5_beginAction := goodIn_ca (goodIn_ca (goodIn_ca (goodIn_r _ [16, 17, 1, 18, 19, 15, 20, 21, 22, 23, 24, 25, 26, 27, 28, 29, 30, 31, 32, 33, 34, 35, 36, 37, 5, 38, 11, 39, 40, 41, 42, 43, 44, 45, 46, 47, 48, 49, 50, 51, 52, 53, 54, 55, 56, 57, 58, 59, 60, 61, 62, 63, 64, 65, 66, 67, 68, 112, 113, 114, 115, 116, 117, 132, 133, 134, 118, 119, 120, 121, 122, 123, 124, 125, 126, 127, 128, 129, 130, 131, 135, 136, 137] (by decide +kernel) (by decide +kernel)) (goodIn_sub (fun _ h => List.mem_cons_of_mem _ (List.mem_append_left _ (List.mem_append_left _ (List.mem_append_right _ h)))) (by decide +kernel))) (goodIn_sub (fun _ h => List.mem_cons_of_mem _ (List.mem_append_left _ (List.mem_append_right _ h))) (by decide +kernel))) (goodIn_sub (fun _ h => List.mem_cons_of_mem _ (List.mem_append_right _ h)) (by decide +kernel))
set_option maxRecDepth 20000 in
theorem gX5_days_X5_beginAction : GoodIn wsX5_days (wsV RX5 211 RX5 yX5_beginAction wsX5_beginAction) := goodIn_app (goodIn_of _ (by decide +kernel)) ggX5_days_X5_beginAction
set_option maxRecDepth 20000 in
theorem ggX5_days_X2_passDays : GoodIn wsX5_days wsX2_passDays := goodIn_r _ [72, 11, 39, 54, 73, 74, 75, 63, 76, 65, 77, 78, 79, 80, 81, 82, 5, 83, 59, 40, 84, 85, 86, 87, 41, 52, 43, 88, 89, 90, 91, 51, 48, 92, 93, 94, 95, 49, 50, 96, 97, 98, 99, 100, 101, 102, 103, 104, 105, 106, 107, 108, 109, 110, 111, 67, 68, 118, 119, 120, 121, 122, 123, 124, 125, 126, 127, 128, 129, 130, 131, 135, 136, 137] (by decide +kernel) (by decide +kernel)
set_option maxRecDepth 20000 in
theorem gX5_days_X2_passDays : GoodIn wsX5_days (wsV RX5 265 RX2 yX2_passDays wsX2_passDays) := goodIn_app (goodIn_of _ (by decide +kernel)) ggX5_days_X2_passDays
theorem dX5_days_0 : decode cX5_days 0 = .ok (.aload_n 0, 1) := by decide +kernel
theorem dX5_days_1 : decode cX5_days 1 = .ok (.aload_n 0, 1) := by decide +kernel
theorem dX5_days_2 : decode cX5_days 2 = .ok (.getfield 19, 3) := by decide +kernel
theorem dX5_days_5 : decode cX5_days 5 = .ok (.iload_n 1, 1) := by decide +kernel
theorem dX5_days_6 : decode cX5_days 6 = .ok (.invokevirtual 262, 3) := by decide +kernel
theorem dX5_days_9 : decode cX5_days 9 = .ok (.invokevirtual 211, 3) := by decide +kernel
theorem dX5_days_12 : decode cX5_days 12 = .ok (.aload_n 0, 1) := by decide +kernel
theorem dX5_days_13 : decode cX5_days 13 = .ok (.getfield 19, 3) := by decide +kernel
theorem dX5_days_16 : decode cX5_days 16 = .ok (.iload_n 1, 1) := by decide +kernel
theorem dX5_days_17 : decode cX5_days 17 = .ok (.invokevirtual 265, 3) := by decide +kernel
theorem dX5_days_20 : decode cX5_days 20 = .ok (.ireturn, 1) := by decide +kernel
set_option maxRecDepth 20000 in
theorem ggX5_set_X5_faultOfSet : GoodIn wsX5_set wsX5_faultOfSet := goodIn_r _ [5] (by decide +kernel) (by decide +kernel)
set_option maxRecDepth 20000 in
theorem gX5_set_X5_faultOfSet : GoodIn wsX5_set (va_wsS RX5 268 yX5_faultOfSet wsX5_faultOfSet) := goodIn_app (goodIn_of _ (by decide +kernel)) ggX5_set_X5_faultOfSet
set_option maxRecDepth 20000 in
theorem ggX5_set_X5_beginAction : GoodIn wsX5_set wsX5_beginAction := goodIn_ca (goodIn_ca (goodIn_ca (goodIn_r _ [9, 10, 1, 11, 12, 4, 13, 14, 15, 16, 17, 18, 19, 20, 21, 22, 23, 24, 25, 26, 27, 28, 29, 30, 31, 32, 33, 34, 35, 36, 37, 38, 39, 40, 41, 42, 43, 44, 45, 46, 47, 48, 49, 50, 51, 52, 53, 54, 55, 56, 57, 58, 59, 60, 61, 62, 63, 68, 69, 70, 71, 72, 73, 74, 75, 76, 77, 78, 79, 80, 81, 82, 83, 84, 85, 86, 87, 88, 89, 90, 91, 92, 93] (by decide +kernel) (by decide +kernel)) (goodIn_sub (fun _ h => List.mem_cons_of_mem _ (List.mem_append_left _ (List.mem_append_left _ (List.mem_append_right _ h)))) (by decide +kernel))) (goodIn_sub (fun _ h => List.mem_cons_of_mem _ (List.mem_append_left _ (List.mem_append_right _ h))) (by decide +kernel))) (goodIn_sub (fun _ h => List.mem_cons_of_mem _ (List.mem_append_right _ h)) (by decide +kernel))
set_option maxRecDepth 20000 in
theorem gX5_set_X5_beginAction : GoodIn wsX5_set (wsV RX5 211 RX5 yX5_beginAction wsX5_beginAction) := goodIn_app (goodIn_of _ (by decide +kernel)) ggX5_set_X5_beginAction
set_option maxRecDepth 20000 in
theorem ggX5_set_X2_changeSetting : GoodIn wsX5_set wsX2_changeSetting := goodIn_r _ [67, 35, 36, 77, 78, 79, 80, 81, 82, 83, 84, 85, 86, 87, 88, 89, 90] (by decide +kernel) (by decide +kernel)
set_option maxRecDepth 20000 in
theorem gX5_set_X2_changeSetting : GoodIn wsX5_set (wsV RX5 271 RX2 yX2_changeSetting wsX2_changeSetting) := goodIn_app (goodIn_of _ (by decide +kernel)) ggX5_set_X2_changeSetting
theorem dX5_set_0 : decode cX5_set 0 = .ok (.aload_n 0, 1) := by decide +kernel
theorem dX5_set_1 : decode cX5_set 1 = .ok (.iload_n 1, 1) := by decide +kernel
theorem dX5_set_2 : decode cX5_set 2 = .ok (.iload_n 2, 1) := by decide +kernel
theorem dX5_set_3 : decode cX5_set 3 = .ok (.invokestatic 268, 3) := by decide +kernel
theorem dX5_set_6 : decode cX5_set 6 = .ok (.invokevirtual 211, 3) := by decide +kernel
theorem dX5_set_9 : decode cX5_set 9 = .ok (.aload_n 0, 1) := by decide +kernel
theorem dX5_set_10 : decode cX5_set 10 = .ok (.getfield 19, 3) := by decide +kernel
theorem dX5_set_13 : decode cX5_set 13 = .ok (.iload_n 1, 1) := by decide +kernel
theorem dX5_set_14 : decode cX5_set 14 = .ok (.iload_n 2, 1) := by decide +kernel
theorem dX5_set_15 : decode cX5_set 15 = .ok (.invokevirtual 271, 3) := by decide +kernel
theorem dX5_set_18 : decode cX5_set 18 = .ok (.ireturn, 1) := by decide +kernel
set_option maxRecDepth 20000 in
theorem ggX5_undo_X1_takeBack : GoodIn wsX5_undo wsX1_takeBack := goodIn_r _ [10, 11, 12, 13, 14, 15, 16, 17, 18, 19, 20, 21, 22, 23, 24, 25, 26, 27, 28, 29, 30, 31, 32, 33, 34, 35, 36, 37, 38, 39, 40, 41, 42, 43, 44, 45, 46, 47, 48, 49, 56, 57, 58, 59, 60, 61, 62, 63, 64, 65, 66, 67, 68, 69, 70, 71, 72, 73, 74, 75] (by decide +kernel) (by decide +kernel)
set_option maxRecDepth 20000 in
theorem gX5_undo_X1_takeBack : GoodIn wsX5_undo (wsV RX5 279 RX1 yX1_takeBack wsX1_takeBack) := goodIn_app (goodIn_of _ (by decide +kernel)) ggX5_undo_X1_takeBack
theorem dX5_undo_0 : decode cX5_undo 0 = .ok (.aload_n 0, 1) := by decide +kernel
theorem dX5_undo_1 : decode cX5_undo 1 = .ok (.getfield 29, 3) := by decide +kernel
theorem dX5_undo_4 : decode cX5_undo 4 = .ok (.getfield 274, 3) := by decide +kernel
theorem dX5_undo_7 : decode cX5_undo 7 = .ok (.ifCond .ne 14, 3) := by decide +kernel
theorem dX5_undo_10 : decode cX5_undo 10 = .ok (.new 52, 3) := by decide +kernel
theorem dX5_undo_13 : decode cX5_undo 13 = .ok (.dup, 1) := by decide +kernel
theorem dX5_undo_14 : decode cX5_undo 14 = .ok (.ldc_w 277, 3) := by decide +kernel
theorem dX5_undo_17 : decode cX5_undo 17 = .ok (.invokespecial 56, 3) := by decide +kernel
theorem dX5_undo_20 : decode cX5_undo 20 = .ok (.athrow, 1) := by decide +kernel
theorem dX5_undo_21 : decode cX5_undo 21 = .ok (.aload_n 0, 1) := by decide +kernel
theorem dX5_undo_22 : decode cX5_undo 22 = .ok (.getfield 29, 3) := by decide +kernel
theorem dX5_undo_25 : decode cX5_undo 25 = .ok (.aload_n 0, 1) := by decide +kernel
theorem dX5_undo_26 : decode cX5_undo 26 = .ok (.getfield 19, 3) := by decide +kernel
theorem dX5_undo_29 : decode cX5_undo 29 = .ok (.invokevirtual 279, 3) := by decide +kernel
theorem dX5_undo_32 : decode cX5_undo 32 = .ok (.ireturn, 1) := by decide +kernel
set_option maxRecDepth 20000 in
theorem ggX5_refusedOn_X5_requireChild : GoodIn wsX5_refusedOn wsX5_requireChild := goodIn_ca (goodIn_r _ [8, 9, 10, 2, 11, 12, 13, 14, 15, 16, 86, 87, 88, 89, 90, 91, 92, 93, 94, 95, 96, 97, 98, 99, 100, 101, 102, 103, 104, 105] (by decide +kernel) (by decide +kernel)) (goodIn_sub (fun _ h => List.mem_cons_of_mem _ (List.mem_append_right _ h)) (by decide +kernel))
set_option maxRecDepth 20000 in
theorem gX5_refusedOn_X5_requireChild : GoodIn wsX5_refusedOn (wsV RX5 120 RX5 yX5_requireChild wsX5_requireChild) := goodIn_app (goodIn_of _ (by decide +kernel)) ggX5_refusedOn_X5_requireChild
set_option maxRecDepth 20000 in
theorem ggX5_refusedOn_X2_copyFrom : GoodIn wsX5_refusedOn wsX2_copyFrom := goodIn_r _ [20, 21, 16, 22, 23, 24, 25, 26, 27, 28, 29, 30, 31, 32, 33, 34, 35, 36, 37, 38, 39, 14, 40, 41, 42, 43, 44, 45, 46, 47, 48, 49, 50, 92, 93, 94, 95, 96, 97, 98, 99, 100, 101, 102, 103, 104, 105, 106, 107, 108] (by decide +kernel) (by decide +kernel)
set_option maxRecDepth 20000 in
theorem gX5_refusedOn_X2_copyFrom : GoodIn wsX5_refusedOn (wsV RX5 283 RX2 yX2_copyFrom wsX2_copyFrom) := goodIn_app (goodIn_of _ (by decide +kernel)) ggX5_refusedOn_X2_copyFrom
set_option maxRecDepth 20000 in
theorem ggX5_refusedOn_X2_spendUntilRefused : GoodIn wsX5_refusedOn wsX2_spendUntilRefused := goodIn_r _ [54, 21, 16, 25, 36, 55, 56, 57, 45, 58, 47, 59, 60, 61, 62, 63, 64, 14, 65, 41, 22, 66, 67, 68, 69, 23, 34, 70, 71, 72, 73, 33, 30, 74, 75, 76, 77, 31, 32, 78, 79, 80, 81, 82, 83, 84, 85, 92, 93, 94, 95, 96, 97, 98, 99, 100, 101, 102, 103, 104, 105, 106, 107, 108] (by decide +kernel) (by decide +kernel)
set_option maxRecDepth 20000 in
theorem gX5_refusedOn_X2_spendUntilRefused : GoodIn wsX5_refusedOn (wsV RX5 287 RX2 yX2_spendUntilRefused wsX2_spendUntilRefused) := goodIn_app (goodIn_of _ (by decide +kernel)) ggX5_refusedOn_X2_spendUntilRefused
theorem dX5_refusedOn_0 : decode cX5_refusedOn 0 = .ok (.aload_n 0, 1) := by decide +kernel
theorem dX5_refusedOn_1 : decode cX5_refusedOn 1 = .ok (.iload_n 1, 1) := by decide +kernel
theorem dX5_refusedOn_2 : decode cX5_refusedOn 2 = .ok (.invokevirtual 120, 3) := by decide +kernel
theorem dX5_refusedOn_5 : decode cX5_refusedOn 5 = .ok (.aload_n 0, 1) := by decide +kernel
theorem dX5_refusedOn_6 : decode cX5_refusedOn 6 = .ok (.getfield 23, 3) := by decide +kernel
theorem dX5_refusedOn_9 : decode cX5_refusedOn 9 = .ok (.aload_n 0, 1) := by decide +kernel
theorem dX5_refusedOn_10 : decode cX5_refusedOn 10 = .ok (.getfield 19, 3) := by decide +kernel
theorem dX5_refusedOn_13 : decode cX5_refusedOn 13 = .ok (.invokevirtual 283, 3) := by decide +kernel
theorem dX5_refusedOn_16 : decode cX5_refusedOn 16 = .ok (.aload_n 0, 1) := by decide +kernel
theorem dX5_refusedOn_17 : decode cX5_refusedOn 17 = .ok (.getfield 23, 3) := by decide +kernel
theorem dX5_refusedOn_20 : decode cX5_refusedOn 20 = .ok (.aload_n 0, 1) := by decide +kernel
theorem dX5_refusedOn_21 : decode cX5_refusedOn 21 = .ok (.getfield 23, 3) := by decide +kernel
theorem dX5_refusedOn_24 : decode cX5_refusedOn 24 = .ok (.getfield 124, 3) := by decide +kernel
theorem dX5_refusedOn_27 : decode cX5_refusedOn 27 = .ok (.iload_n 1, 1) := by decide +kernel
theorem dX5_refusedOn_28 : decode cX5_refusedOn 28 = .ok (.iaload, 1) := by decide +kernel
theorem dX5_refusedOn_29 : decode cX5_refusedOn 29 = .ok (.iload_n 1, 1) := by decide +kernel
theorem dX5_refusedOn_30 : decode cX5_refusedOn 30 = .ok (.invokevirtual 287, 3) := by decide +kernel
theorem dX5_refusedOn_33 : decode cX5_refusedOn 33 = .ok (.ireturn, 1) := by decide +kernel
set_option maxRecDepth 20000 in
theorem ggX5_needs_X5_requireFamily : GoodIn wsX5_needs wsX5_requireFamily := goodIn_ca (goodIn_r _ [7, 8, 9, 10, 11, 6, 12] (by decide +kernel) (by decide +kernel)) (goodIn_sub (fun _ h => List.mem_cons_of_mem _ (List.mem_append_right _ h)) (by decide +kernel))
set_option maxRecDepth 20000 in
theorem gX5_needs_X5_requireFamily : GoodIn wsX5_needs (va_wsS RX5 152 yX5_requireFamily wsX5_requireFamily) := goodIn_app (goodIn_of _ (by decide +kernel)) ggX5_needs_X5_requireFamily
set_option maxRecDepth 20000 in
theorem ggX5_needs_X2_lowestChildOf : GoodIn wsX5_needs wsX2_lowestChildOf := goodIn_r _ [17, 18, 19, 95, 96, 97, 98, 99, 100, 101, 102, 103, 104, 105, 106, 107, 108] (by decide +kernel) (by decide +kernel)
set_option maxRecDepth 20000 in
theorem gX5_needs_X2_lowestChildOf : GoodIn wsX5_needs (wsV RX5 290 RX2 yX2_lowestChildOf wsX2_lowestChildOf) := goodIn_app (goodIn_of _ (by decide +kernel)) ggX5_needs_X2_lowestChildOf
set_option maxRecDepth 20000 in
theorem ggX5_needs_X2_copyFrom : GoodIn wsX5_needs wsX2_copyFrom := goodIn_r _ [23, 24, 18, 25, 26, 27, 19, 28, 29, 30, 31, 32, 33, 34, 35, 36, 37, 38, 39, 40, 41, 16, 42, 43, 44, 45, 46, 47, 48, 49, 50, 51, 52, 95, 96, 97, 98, 99, 100, 101, 102, 103, 104, 105, 106, 107, 108, 109, 110, 111] (by decide +kernel) (by decide +kernel)
set_option maxRecDepth 20000 in
theorem gX5_needs_X2_copyFrom : GoodIn wsX5_needs (wsV RX5 283 RX2 yX2_copyFrom wsX2_copyFrom) := goodIn_app (goodIn_of _ (by decide +kernel)) ggX5_needs_X2_copyFrom
set_option maxRecDepth 20000 in
theorem ggX5_needs_X2_copyBalancesFrom : GoodIn wsX5_needs wsX2_copyBalancesFrom := goodIn_r _ [42, 43, 28, 29, 30, 31, 95, 96, 97, 98, 99, 100, 101, 102, 103, 104, 105, 106, 107, 108] (by decide +kernel) (by decide +kernel)
set_option maxRecDepth 20000 in
theorem gX5_needs_X2_copyBalancesFrom : GoodIn wsX5_needs (wsV RX5 293 RX2 yX2_copyBalancesFrom wsX2_copyBalancesFrom) := goodIn_app (goodIn_of _ (by decide +kernel)) ggX5_needs_X2_copyBalancesFrom
set_option maxRecDepth 20000 in
theorem ggX5_needs_X2_spendUntilRefused : GoodIn wsX5_needs wsX2_spendUntilRefused := goodIn_r _ [57, 24, 18, 19, 38, 58, 59, 60, 47, 61, 49, 62, 63, 64, 65, 66, 67, 16, 68, 43, 25, 69, 70, 71, 72, 26, 36, 73, 74, 75, 76, 35, 32, 77, 78, 79, 80, 33, 34, 81, 82, 83, 84, 85, 86, 87, 88, 95, 96, 97, 98, 99, 100, 101, 102, 103, 104, 105, 106, 107, 108, 109, 110, 111] (by decide +kernel) (by decide +kernel)
set_option maxRecDepth 20000 in
theorem gX5_needs_X2_spendUntilRefused : GoodIn wsX5_needs (wsV RX5 287 RX2 yX2_spendUntilRefused wsX2_spendUntilRefused) := goodIn_app (goodIn_of _ (by decide +kernel)) ggX5_needs_X2_spendUntilRefused
theorem dX5_needs_0 : decode cX5_needs 0 = .ok (.iload_n 1, 1) := by decide +kernel
theorem dX5_needs_1 : decode cX5_needs 1 = .ok (.invokestatic 152, 3) := by decide +kernel
theorem dX5_needs_4 : decode cX5_needs 4 = .ok (.aload_n 0, 1) := by decide +kernel
theorem dX5_needs_5 : decode cX5_needs 5 = .ok (.getfield 19, 3) := by decide +kernel
theorem dX5_needs_8 : decode cX5_needs 8 = .ok (.iload_n 1, 1) := by decide +kernel
theorem dX5_needs_9 : decode cX5_needs 9 = .ok (.invokevirtual 290, 3) := by decide +kernel
theorem dX5_needs_12 : decode cX5_needs 12 = .ok (.istore_n 2, 1) := by decide +kernel
theorem dX5_needs_13 : decode cX5_needs 13 = .ok (.iload_n 2, 1) := by decide +kernel
theorem dX5_needs_14 : decode cX5_needs 14 = .ok (.iconst (-1), 1) := by decide +kernel
theorem dX5_needs_15 : decode cX5_needs 15 = .ok (.if_icmp .ne 5, 3) := by decide +kernel
theorem dX5_needs_18 : decode cX5_needs 18 = .ok (.iconst (-1), 1) := by decide +kernel
theorem dX5_needs_19 : decode cX5_needs 19 = .ok (.ireturn, 1) := by decide +kernel
theorem dX5_needs_20 : decode cX5_needs 20 = .ok (.aload_n 0, 1) := by decide +kernel
theorem dX5_needs_21 : decode cX5_needs 21 = .ok (.getfield 23, 3) := by decide +kernel
theorem dX5_needs_24 : decode cX5_needs 24 = .ok (.aload_n 0, 1) := by decide +kernel
theorem dX5_needs_25 : decode cX5_needs 25 = .ok (.getfield 19, 3) := by decide +kernel
theorem dX5_needs_28 : decode cX5_needs 28 = .ok (.invokevirtual 283, 3) := by decide +kernel
theorem dX5_needs_31 : decode cX5_needs 31 = .ok (.iconst 0, 1) := by decide +kernel
theorem dX5_needs_32 : decode cX5_needs 32 = .ok (.istore_n 3, 1) := by decide +kernel
theorem dX5_needs_33 : decode cX5_needs 33 = .ok (.iload_n 3, 1) := by decide +kernel
theorem dX5_needs_34 : decode cX5_needs 34 = .ok (.sipush 20000, 3) := by decide +kernel
theorem dX5_needs_37 : decode cX5_needs 37 = .ok (.if_icmp .gt 48, 3) := by decide +kernel
theorem dX5_needs_40 : decode cX5_needs 40 = .ok (.aload_n 0, 1) := by decide +kernel
theorem dX5_needs_41 : decode cX5_needs 41 = .ok (.getfield 23, 3) := by decide +kernel
theorem dX5_needs_44 : decode cX5_needs 44 = .ok (.aload_n 0, 1) := by decide +kernel
theorem dX5_needs_45 : decode cX5_needs 45 = .ok (.getfield 19, 3) := by decide +kernel
theorem dX5_needs_48 : decode cX5_needs 48 = .ok (.invokevirtual 293, 3) := by decide +kernel
theorem dX5_needs_51 : decode cX5_needs 51 = .ok (.aload_n 0, 1) := by decide +kernel
theorem dX5_needs_52 : decode cX5_needs 52 = .ok (.getfield 23, 3) := by decide +kernel
theorem dX5_needs_55 : decode cX5_needs 55 = .ok (.getfield 131, 3) := by decide +kernel
theorem dX5_needs_58 : decode cX5_needs 58 = .ok (.iload_n 2, 1) := by decide +kernel
theorem dX5_needs_59 : decode cX5_needs 59 = .ok (.dup2, 1) := by decide +kernel
theorem dX5_needs_60 : decode cX5_needs 60 = .ok (.iaload, 1) := by decide +kernel
theorem dX5_needs_61 : decode cX5_needs 61 = .ok (.iload_n 3, 1) := by decide +kernel
theorem dX5_needs_62 : decode cX5_needs 62 = .ok (.iadd, 1) := by decide +kernel
theorem dX5_needs_63 : decode cX5_needs 63 = .ok (.iastore, 1) := by decide +kernel
theorem dX5_needs_64 : decode cX5_needs 64 = .ok (.aload_n 0, 1) := by decide +kernel
theorem dX5_needs_65 : decode cX5_needs 65 = .ok (.getfield 23, 3) := by decide +kernel
theorem dX5_needs_68 : decode cX5_needs 68 = .ok (.iload_n 1, 1) := by decide +kernel
theorem dX5_needs_69 : decode cX5_needs 69 = .ok (.iconst (-1), 1) := by decide +kernel
theorem dX5_needs_70 : decode cX5_needs 70 = .ok (.invokevirtual 287, 3) := by decide +kernel
theorem dX5_needs_73 : decode cX5_needs 73 = .ok (.iconst (-1), 1) := by decide +kernel
theorem dX5_needs_74 : decode cX5_needs 74 = .ok (.if_icmp .ne 5, 3) := by decide +kernel
theorem dX5_needs_77 : decode cX5_needs 77 = .ok (.iload_n 3, 1) := by decide +kernel
theorem dX5_needs_78 : decode cX5_needs 78 = .ok (.ireturn, 1) := by decide +kernel
theorem dX5_needs_79 : decode cX5_needs 79 = .ok (.iinc 3 100, 3) := by decide +kernel
theorem dX5_needs_82 : decode cX5_needs 82 = .ok (.goto (-49), 3) := by decide +kernel
theorem dX5_needs_85 : decode cX5_needs 85 = .ok (.iconst (-1), 1) := by decide +kernel
theorem dX5_needs_86 : decode cX5_needs 86 = .ok (.ireturn, 1) := by decide +kernel
set_option maxRecDepth 20000 in
theorem ggX5_ifEntitled_X2_faultOfEntitle : GoodIn wsX5_ifEntitled wsX2_faultOfEntitle := goodIn_r _ [7, 8, 9, 10, 6, 11, 12, 13, 14, 15, 104, 105, 106, 107, 108, 109, 110, 111, 112, 113, 114, 115, 116, 117] (by decide +kernel) (by decide +kernel)
set_option maxRecDepth 20000 in
theorem gX5_ifEntitled_X2_faultOfEntitle : GoodIn wsX5_ifEntitled (wsV RX5 250 RX2 yX2_faultOfEntitle wsX2_faultOfEntitle) := goodIn_app (goodIn_of _ (by decide +kernel)) ggX5_ifEntitled_X2_faultOfEntitle
set_option maxRecDepth 20000 in
theorem ggX5_ifEntitled_X5_requireFine : GoodIn wsX5_ifEntitled wsX5_requireFine := goodIn_ca (goodIn_ca (goodIn_ca (goodIn_r _ [18, 19, 20, 21, 22, 23, 24] (by decide +kernel) (by decide +kernel)) (goodIn_sub (fun _ h => List.mem_cons_of_mem _ (List.mem_append_left _ (List.mem_append_left _ (List.mem_append_right _ h)))) (by decide +kernel))) (goodIn_sub (fun _ h => List.mem_cons_of_mem _ (List.mem_append_left _ (List.mem_append_right _ h))) (by decide +kernel))) (goodIn_sub (fun _ h => List.mem_cons_of_mem _ (List.mem_append_right _ h)) (by decide +kernel))
set_option maxRecDepth 20000 in
theorem gX5_ifEntitled_X5_requireFine : GoodIn wsX5_ifEntitled (va_wsS RX5 296 yX5_requireFine wsX5_requireFine) := goodIn_app (goodIn_of _ (by decide +kernel)) ggX5_ifEntitled_X5_requireFine
set_option maxRecDepth 20000 in
theorem ggX5_ifEntitled_X2_copyFrom : GoodIn wsX5_ifEntitled wsX2_copyFrom := goodIn_r _ [28, 29, 12, 30, 31, 32, 33, 34, 35, 36, 37, 38, 39, 40, 41, 42, 43, 44, 45, 46, 47, 6, 48, 49, 50, 51, 52, 53, 54, 55, 56, 57, 58, 104, 105, 106, 107, 108, 109, 110, 111, 112, 113, 114, 115, 116, 117, 118, 119, 120] (by decide +kernel) (by decide +kernel)
set_option maxRecDepth 20000 in
theorem gX5_ifEntitled_X2_copyFrom : GoodIn wsX5_ifEntitled (wsV RX5 283 RX2 yX2_copyFrom wsX2_copyFrom) := goodIn_app (goodIn_of _ (by decide +kernel)) ggX5_ifEntitled_X2_copyFrom
set_option maxRecDepth 20000 in
theorem ggX5_ifEntitled_X2_changeEntitlement : GoodIn wsX5_ifEntitled wsX2_changeEntitlement := goodIn_r _ [62, 39, 40, 29, 63, 64, 65, 6, 66, 12, 49, 67, 68, 69, 70, 44, 30, 71, 72, 73, 53, 74, 55, 58, 75, 76, 77, 78, 79, 80, 81, 82, 83, 84, 85, 57, 86, 87, 88, 89, 90, 91, 92, 93, 94, 95, 96, 97, 104, 105, 106, 107, 108, 109, 110, 111, 112, 113, 114, 115, 116, 117, 118, 119, 120] (by decide +kernel) (by decide +kernel)
set_option maxRecDepth 20000 in
theorem gX5_ifEntitled_X2_changeEntitlement : GoodIn wsX5_ifEntitled (wsV RX5 253 RX2 yX2_changeEntitlement wsX2_changeEntitlement) := goodIn_app (goodIn_of _ (by decide +kernel)) ggX5_ifEntitled_X2_changeEntitlement
theorem dX5_ifEntitled_0 : decode cX5_ifEntitled 0 = .ok (.aload_n 0, 1) := by decide +kernel
theorem dX5_ifEntitled_1 : decode cX5_ifEntitled 1 = .ok (.getfield 19, 3) := by decide +kernel
theorem dX5_ifEntitled_4 : decode cX5_ifEntitled 4 = .ok (.iload_n 1, 1) := by decide +kernel
theorem dX5_ifEntitled_5 : decode cX5_ifEntitled 5 = .ok (.iload_n 2, 1) := by decide +kernel
theorem dX5_ifEntitled_6 : decode cX5_ifEntitled 6 = .ok (.iload_n 3, 1) := by decide +kernel
theorem dX5_ifEntitled_7 : decode cX5_ifEntitled 7 = .ok (.invokevirtual 250, 3) := by decide +kernel
theorem dX5_ifEntitled_10 : decode cX5_ifEntitled 10 = .ok (.invokestatic 296, 3) := by decide +kernel
theorem dX5_ifEntitled_13 : decode cX5_ifEntitled 13 = .ok (.aload_n 0, 1) := by decide +kernel
theorem dX5_ifEntitled_14 : decode cX5_ifEntitled 14 = .ok (.getfield 23, 3) := by decide +kernel
theorem dX5_ifEntitled_17 : decode cX5_ifEntitled 17 = .ok (.aload_n 0, 1) := by decide +kernel
theorem dX5_ifEntitled_18 : decode cX5_ifEntitled 18 = .ok (.getfield 19, 3) := by decide +kernel
theorem dX5_ifEntitled_21 : decode cX5_ifEntitled 21 = .ok (.invokevirtual 283, 3) := by decide +kernel
theorem dX5_ifEntitled_24 : decode cX5_ifEntitled 24 = .ok (.aload_n 0, 1) := by decide +kernel
theorem dX5_ifEntitled_25 : decode cX5_ifEntitled 25 = .ok (.getfield 23, 3) := by decide +kernel
theorem dX5_ifEntitled_28 : decode cX5_ifEntitled 28 = .ok (.iload_n 1, 1) := by decide +kernel
theorem dX5_ifEntitled_29 : decode cX5_ifEntitled 29 = .ok (.iload_n 2, 1) := by decide +kernel
theorem dX5_ifEntitled_30 : decode cX5_ifEntitled 30 = .ok (.iload_n 3, 1) := by decide +kernel
theorem dX5_ifEntitled_31 : decode cX5_ifEntitled 31 = .ok (.invokevirtual 253, 3) := by decide +kernel
theorem dX5_ifEntitled_34 : decode cX5_ifEntitled 34 = .ok (.ireturn, 1) := by decide +kernel
set_option maxRecDepth 20000 in
theorem ggX5_ifPrice_X2_copyFrom : GoodIn wsX5_ifPrice wsX2_copyFrom := goodIn_r _ [10, 11, 12, 13, 14, 15, 16, 17, 18, 19, 20, 21, 22, 23, 24, 25, 26, 27, 28, 29, 30, 9, 31, 32, 33, 34, 35, 36, 37, 38, 39, 40, 41, 95, 96, 97, 98, 99, 100, 101, 102, 103, 104, 105, 106, 107, 108, 109, 110, 111] (by decide +kernel) (by decide +kernel)
set_option maxRecDepth 20000 in
theorem gX5_ifPrice_X2_copyFrom : GoodIn wsX5_ifPrice (wsV RX5 283 RX2 yX2_copyFrom wsX2_copyFrom) := goodIn_app (goodIn_of _ (by decide +kernel)) ggX5_ifPrice_X2_copyFrom
set_option maxRecDepth 20000 in
theorem ggX5_ifPrice_X2_daysLeft : GoodIn wsX5_ifPrice wsX2_daysLeft := goodIn_r _ [45, 11, 95, 96, 97, 98, 99, 100, 101, 102, 103, 104, 105, 106, 107, 108] (by decide +kernel) (by decide +kernel)
set_option maxRecDepth 20000 in
theorem gX5_ifPrice_X2_daysLeft : GoodIn wsX5_ifPrice (wsV RX5 301 RX2 yX2_daysLeft wsX2_daysLeft) := goodIn_app (goodIn_of _ (by decide +kernel)) ggX5_ifPrice_X2_daysLeft
set_option maxRecDepth 20000 in
theorem ggX5_ifPrice_X2_passDays : GoodIn wsX5_ifPrice wsX2_passDays := goodIn_r _ [49, 11, 12, 27, 50, 51, 52, 36, 53, 38, 54, 55, 56, 57, 58, 59, 9, 60, 32, 13, 61, 62, 63, 64, 14, 25, 16, 65, 66, 67, 68, 24, 21, 69, 70, 71, 72, 22, 23, 73, 74, 75, 76, 77, 78, 79, 80, 81, 82, 83, 84, 85, 86, 87, 88, 40, 41, 95, 96, 97, 98, 99, 100, 101, 102, 103, 104, 105, 106, 107, 108, 109, 110, 111] (by decide +kernel) (by decide +kernel)
set_option maxRecDepth 20000 in
theorem gX5_ifPrice_X2_passDays : GoodIn wsX5_ifPrice (wsV RX5 265 RX2 yX2_passDays wsX2_passDays) := goodIn_app (goodIn_of _ (by decide +kernel)) ggX5_ifPrice_X2_passDays
theorem dX5_ifPrice_0 : decode cX5_ifPrice 0 = .ok (.iload_n 1, 1) := by decide +kernel
theorem dX5_ifPrice_1 : decode cX5_ifPrice 1 = .ok (.iconst 1, 1) := by decide +kernel
theorem dX5_ifPrice_2 : decode cX5_ifPrice 2 = .ok (.if_icmp .lt 10, 3) := by decide +kernel
theorem dX5_ifPrice_5 : decode cX5_ifPrice 5 = .ok (.iload_n 1, 1) := by decide +kernel
theorem dX5_ifPrice_6 : decode cX5_ifPrice 6 = .ok (.sipush 999, 3) := by decide +kernel
theorem dX5_ifPrice_9 : decode cX5_ifPrice 9 = .ok (.if_icmp .le 14, 3) := by decide +kernel
theorem dX5_ifPrice_12 : decode cX5_ifPrice 12 = .ok (.new 41, 3) := by decide +kernel
theorem dX5_ifPrice_15 : decode cX5_ifPrice 15 = .ok (.dup, 1) := by decide +kernel
theorem dX5_ifPrice_16 : decode cX5_ifPrice 16 = .ok (.ldc_w 299, 3) := by decide +kernel
theorem dX5_ifPrice_19 : decode cX5_ifPrice 19 = .ok (.invokespecial 45, 3) := by decide +kernel
theorem dX5_ifPrice_22 : decode cX5_ifPrice 22 = .ok (.athrow, 1) := by decide +kernel
theorem dX5_ifPrice_23 : decode cX5_ifPrice 23 = .ok (.aload_n 0, 1) := by decide +kernel
theorem dX5_ifPrice_24 : decode cX5_ifPrice 24 = .ok (.getfield 23, 3) := by decide +kernel
theorem dX5_ifPrice_27 : decode cX5_ifPrice 27 = .ok (.aload_n 0, 1) := by decide +kernel
theorem dX5_ifPrice_28 : decode cX5_ifPrice 28 = .ok (.getfield 19, 3) := by decide +kernel
theorem dX5_ifPrice_31 : decode cX5_ifPrice 31 = .ok (.invokevirtual 283, 3) := by decide +kernel
theorem dX5_ifPrice_34 : decode cX5_ifPrice 34 = .ok (.aload_n 0, 1) := by decide +kernel
theorem dX5_ifPrice_35 : decode cX5_ifPrice 35 = .ok (.getfield 23, 3) := by decide +kernel
theorem dX5_ifPrice_38 : decode cX5_ifPrice 38 = .ok (.iload_n 1, 1) := by decide +kernel
theorem dX5_ifPrice_39 : decode cX5_ifPrice 39 = .ok (.putfield 200, 3) := by decide +kernel
theorem dX5_ifPrice_42 : decode cX5_ifPrice 42 = .ok (.aload_n 0, 1) := by decide +kernel
theorem dX5_ifPrice_43 : decode cX5_ifPrice 43 = .ok (.getfield 23, 3) := by decide +kernel
theorem dX5_ifPrice_46 : decode cX5_ifPrice 46 = .ok (.aload_n 0, 1) := by decide +kernel
theorem dX5_ifPrice_47 : decode cX5_ifPrice 47 = .ok (.getfield 23, 3) := by decide +kernel
theorem dX5_ifPrice_50 : decode cX5_ifPrice 50 = .ok (.invokevirtual 301, 3) := by decide +kernel
theorem dX5_ifPrice_53 : decode cX5_ifPrice 53 = .ok (.invokevirtual 265, 3) := by decide +kernel
theorem dX5_ifPrice_56 : decode cX5_ifPrice 56 = .ok (.ireturn, 1) := by decide +kernel
set_option maxRecDepth 20000 in
theorem ggX5_bestEntitled_X2_copyFrom : GoodIn wsX5_bestEntitled wsX2_copyFrom := goodIn_r _ [10, 11, 12, 13, 14, 15, 16, 17, 18, 19, 20, 21, 22, 23, 24, 25, 26, 27, 28, 29, 30, 9, 31, 32, 33, 34, 35, 36, 37, 38, 39, 40, 41, 124, 125, 126, 127, 128, 129, 130, 131, 132, 133, 134, 135, 136, 137, 138, 139, 140] (by decide +kernel) (by decide +kernel)
set_option maxRecDepth 20000 in
theorem gX5_bestEntitled_X2_copyFrom : GoodIn wsX5_bestEntitled (wsV RX5 283 RX2 yX2_copyFrom wsX2_copyFrom) := goodIn_app (goodIn_of _ (by decide +kernel)) ggX5_bestEntitled_X2_copyFrom
set_option maxRecDepth 20000 in
theorem ggX5_bestEntitled_X2_changeEntitlement : GoodIn wsX5_bestEntitled wsX2_changeEntitlement := goodIn_r _ [45, 22, 23, 11, 46, 47, 48, 9, 49, 12, 32, 50, 51, 52, 53, 27, 13, 54, 55, 56, 36, 57, 38, 41, 58, 59, 60, 61, 62, 63, 64, 65, 66, 67, 68, 40, 69, 70, 71, 72, 73, 74, 75, 76, 77, 78, 79, 80, 124, 125, 126, 127, 128, 129, 130, 131, 132, 133, 134, 135, 136, 137, 138, 139, 140] (by decide +kernel) (by decide +kernel)
set_option maxRecDepth 20000 in
theorem gX5_bestEntitled_X2_changeEntitlement : GoodIn wsX5_bestEntitled (wsV RX5 253 RX2 yX2_changeEntitlement wsX2_changeEntitlement) := goodIn_app (goodIn_of _ (by decide +kernel)) ggX5_bestEntitled_X2_changeEntitlement
set_option maxRecDepth 20000 in
theorem ggX5_bestEntitled_X2_daysLeft : GoodIn wsX5_bestEntitled wsX2_daysLeft := goodIn_r _ [84, 11, 124, 125, 126, 127, 128, 129, 130, 131, 132, 133, 134, 135, 136, 137] (by decide +kernel) (by decide +kernel)
set_option maxRecDepth 20000 in
theorem gX5_bestEntitled_X2_daysLeft : GoodIn wsX5_bestEntitled (wsV RX5 301 RX2 yX2_daysLeft wsX2_daysLeft) := goodIn_app (goodIn_of _ (by decide +kernel)) ggX5_bestEntitled_X2_daysLeft
set_option maxRecDepth 20000 in
theorem ggX5_bestEntitled_X2_passDays : GoodIn wsX5_bestEntitled wsX2_passDays := goodIn_r _ [88, 11, 12, 27, 73, 74, 75, 36, 76, 38, 58, 59, 60, 89, 90, 91, 9, 92, 32, 13, 93, 94, 95, 96, 14, 25, 16, 97, 98, 99, 100, 24, 21, 61, 62, 63, 64, 22, 23, 101, 102, 103, 104, 105, 106, 107, 108, 69, 70, 71, 72, 77, 78, 79, 80, 40, 41, 124, 125, 126, 127, 128, 129, 130, 131, 132, 133, 134, 135, 136, 137, 138, 139, 140] (by decide +kernel) (by decide +kernel)
set_option maxRecDepth 20000 in
theorem gX5_bestEntitled_X2_passDays : GoodIn wsX5_bestEntitled (wsV RX5 265 RX2 yX2_passDays wsX2_passDays) := goodIn_app (goodIn_of _ (by decide +kernel)) ggX5_bestEntitled_X2_passDays
set_option maxRecDepth 20000 in
theorem ggX5_bestEntitled_X3_countSince : GoodIn wsX5_bestEntitled wsX3_countSince := goodIn_r _ [112, 113, 114, 115, 36, 116, 117, 74, 75, 76, 38, 58, 59, 60, 138, 139, 140] (by decide +kernel) (by decide +kernel)
set_option maxRecDepth 20000 in
theorem gX5_bestEntitled_X3_countSince : GoodIn wsX5_bestEntitled (wsV RX5 304 RX3 yX3_countSince wsX3_countSince) := goodIn_app (goodIn_of _ (by decide +kernel)) ggX5_bestEntitled_X3_countSince
theorem dX5_bestEntitled_0 : decode cX5_bestEntitled 0 = .ok (.iconst (-1), 1) := by decide +kernel
theorem dX5_bestEntitled_1 : decode cX5_bestEntitled 1 = .ok (.istore_n 1, 1) := by decide +kernel
theorem dX5_bestEntitled_2 : decode cX5_bestEntitled 2 = .ok (.iconst 0, 1) := by decide +kernel
theorem dX5_bestEntitled_3 : decode cX5_bestEntitled 3 = .ok (.istore_n 2, 1) := by decide +kernel
theorem dX5_bestEntitled_4 : decode cX5_bestEntitled 4 = .ok (.iconst 0, 1) := by decide +kernel
theorem dX5_bestEntitled_5 : decode cX5_bestEntitled 5 = .ok (.istore_n 3, 1) := by decide +kernel
theorem dX5_bestEntitled_6 : decode cX5_bestEntitled 6 = .ok (.iload_n 3, 1) := by decide +kernel
theorem dX5_bestEntitled_7 : decode cX5_bestEntitled 7 = .ok (.aload_n 0, 1) := by decide +kernel
theorem dX5_bestEntitled_8 : decode cX5_bestEntitled 8 = .ok (.getfield 19, 3) := by decide +kernel
theorem dX5_bestEntitled_11 : decode cX5_bestEntitled 11 = .ok (.getfield 90, 3) := by decide +kernel
theorem dX5_bestEntitled_14 : decode cX5_bestEntitled 14 = .ok (.if_icmp .ge 83, 3) := by decide +kernel
theorem dX5_bestEntitled_17 : decode cX5_bestEntitled 17 = .ok (.aload_n 0, 1) := by decide +kernel
theorem dX5_bestEntitled_18 : decode cX5_bestEntitled 18 = .ok (.getfield 23, 3) := by decide +kernel
theorem dX5_bestEntitled_21 : decode cX5_bestEntitled 21 = .ok (.aload_n 0, 1) := by decide +kernel
theorem dX5_bestEntitled_22 : decode cX5_bestEntitled 22 = .ok (.getfield 19, 3) := by decide +kernel
theorem dX5_bestEntitled_25 : decode cX5_bestEntitled 25 = .ok (.invokevirtual 283, 3) := by decide +kernel
theorem dX5_bestEntitled_28 : decode cX5_bestEntitled 28 = .ok (.aload_n 0, 1) := by decide +kernel
theorem dX5_bestEntitled_29 : decode cX5_bestEntitled 29 = .ok (.getfield 23, 3) := by decide +kernel
theorem dX5_bestEntitled_32 : decode cX5_bestEntitled 32 = .ok (.iload_n 3, 1) := by decide +kernel
theorem dX5_bestEntitled_33 : decode cX5_bestEntitled 33 = .ok (.iconst 0, 1) := by decide +kernel
theorem dX5_bestEntitled_34 : decode cX5_bestEntitled 34 = .ok (.bipush 39, 2) := by decide +kernel
theorem dX5_bestEntitled_36 : decode cX5_bestEntitled 36 = .ok (.invokevirtual 253, 3) := by decide +kernel
theorem dX5_bestEntitled_39 : decode cX5_bestEntitled 39 = .ok (.pop, 1) := by decide +kernel
theorem dX5_bestEntitled_40 : decode cX5_bestEntitled 40 = .ok (.aload_n 0, 1) := by decide +kernel
theorem dX5_bestEntitled_41 : decode cX5_bestEntitled 41 = .ok (.getfield 23, 3) := by decide +kernel
theorem dX5_bestEntitled_44 : decode cX5_bestEntitled 44 = .ok (.aload_n 0, 1) := by decide +kernel
theorem dX5_bestEntitled_45 : decode cX5_bestEntitled 45 = .ok (.getfield 23, 3) := by decide +kernel
theorem dX5_bestEntitled_48 : decode cX5_bestEntitled 48 = .ok (.invokevirtual 301, 3) := by decide +kernel
theorem dX5_bestEntitled_51 : decode cX5_bestEntitled 51 = .ok (.invokevirtual 265, 3) := by decide +kernel
theorem dX5_bestEntitled_54 : decode cX5_bestEntitled 54 = .ok (.pop, 1) := by decide +kernel
theorem dX5_bestEntitled_55 : decode cX5_bestEntitled 55 = .ok (.aload_n 0, 1) := by decide +kernel
theorem dX5_bestEntitled_56 : decode cX5_bestEntitled 56 = .ok (.getfield 23, 3) := by decide +kernel
theorem dX5_bestEntitled_59 : decode cX5_bestEntitled 59 = .ok (.getfield 93, 3) := by decide +kernel
theorem dX5_bestEntitled_62 : decode cX5_bestEntitled 62 = .ok (.aload_n 0, 1) := by decide +kernel
theorem dX5_bestEntitled_63 : decode cX5_bestEntitled 63 = .ok (.getfield 19, 3) := by decide +kernel
theorem dX5_bestEntitled_66 : decode cX5_bestEntitled 66 = .ok (.getfield 87, 3) := by decide +kernel
theorem dX5_bestEntitled_69 : decode cX5_bestEntitled 69 = .ok (.iconst 4, 1) := by decide +kernel
theorem dX5_bestEntitled_70 : decode cX5_bestEntitled 70 = .ok (.invokevirtual 304, 3) := by decide +kernel
theorem dX5_bestEntitled_73 : decode cX5_bestEntitled 73 = .ok (.istore 4, 2) := by decide +kernel
theorem dX5_bestEntitled_75 : decode cX5_bestEntitled 75 = .ok (.iload_n 1, 1) := by decide +kernel
theorem dX5_bestEntitled_76 : decode cX5_bestEntitled 76 = .ok (.iconst (-1), 1) := by decide +kernel
theorem dX5_bestEntitled_77 : decode cX5_bestEntitled 77 = .ok (.if_icmp .eq 9, 3) := by decide +kernel
theorem dX5_bestEntitled_80 : decode cX5_bestEntitled 80 = .ok (.iload 4, 2) := by decide +kernel
theorem dX5_bestEntitled_82 : decode cX5_bestEntitled 82 = .ok (.iload_n 2, 1) := by decide +kernel
theorem dX5_bestEntitled_83 : decode cX5_bestEntitled 83 = .ok (.if_icmp .ge 8, 3) := by decide +kernel
theorem dX5_bestEntitled_86 : decode cX5_bestEntitled 86 = .ok (.iload_n 3, 1) := by decide +kernel
theorem dX5_bestEntitled_87 : decode cX5_bestEntitled 87 = .ok (.istore_n 1, 1) := by decide +kernel
theorem dX5_bestEntitled_88 : decode cX5_bestEntitled 88 = .ok (.iload 4, 2) := by decide +kernel
theorem dX5_bestEntitled_90 : decode cX5_bestEntitled 90 = .ok (.istore_n 2, 1) := by decide +kernel
theorem dX5_bestEntitled_91 : decode cX5_bestEntitled 91 = .ok (.iinc 3 1, 3) := by decide +kernel
theorem dX5_bestEntitled_94 : decode cX5_bestEntitled 94 = .ok (.goto (-88), 3) := by decide +kernel
theorem dX5_bestEntitled_97 : decode cX5_bestEntitled 97 = .ok (.iload_n 1, 1) := by decide +kernel
theorem dX5_bestEntitled_98 : decode cX5_bestEntitled 98 = .ok (.ireturn, 1) := by decide +kernel
set_option maxRecDepth 20000 in
theorem ggX5_runScript_X0_withoutLastGroups : GoodIn wsX5_runScript wsX0_withoutLastGroups := goodIn_r _ [9, 10] (by decide +kernel) (by decide +kernel)
set_option maxRecDepth 20000 in
theorem gX5_runScript_X0_withoutLastGroups : GoodIn wsX5_runScript (va_wsS RX5 309 yX0_withoutLastGroups wsX0_withoutLastGroups) := goodIn_app (goodIn_of _ (by decide +kernel)) ggX5_runScript_X0_withoutLastGroups
set_option maxRecDepth 20000 in
theorem ggX5_runScript_X2_copyFrom : GoodIn wsX5_runScript wsX2_copyFrom := goodIn_r _ [15, 16, 17, 18, 19, 20, 21, 22, 23, 24, 25, 26, 27, 28, 29, 30, 31, 32, 33, 34, 35, 14, 36, 37, 38, 39, 40, 41, 42, 43, 44, 45, 46, 226, 227, 228, 229, 230, 231, 232, 233, 234, 235, 236, 237, 238, 239, 240, 241, 242] (by decide +kernel) (by decide +kernel)
set_option maxRecDepth 20000 in
theorem gX5_runScript_X2_copyFrom : GoodIn wsX5_runScript (wsV RX5 283 RX2 yX2_copyFrom wsX2_copyFrom) := goodIn_app (goodIn_of _ (by decide +kernel)) ggX5_runScript_X2_copyFrom
set_option maxRecDepth 20000 in
theorem ggX5_runScript_X0_performGroup : GoodIn wsX5_runScript wsX0_performGroup := goodIn_r _ [49, 50, 51, 52, 53, 54, 14, 55, 56, 57, 58, 59, 16, 60, 61, 62, 63, 17, 64, 65, 66, 67, 68, 69, 70, 32, 71, 72, 73, 41, 74, 43, 75, 76, 77, 78, 79, 80, 81, 82, 83, 84, 85, 86, 87, 88, 89, 90, 91, 92, 93, 94, 95, 96, 97, 37, 98, 99, 100, 101, 20, 102, 103, 104, 105, 106, 107, 108, 109, 110, 111, 112, 113, 27, 28, 114, 115, 116, 117, 118, 119, 120, 121, 18, 122, 123, 124, 125, 46, 126, 127, 128, 129, 130, 131, 132, 133, 45, 134, 135, 136, 137, 138, 139, 140, 141, 142, 143, 144, 145, 146, 147, 148, 149, 150, 151, 152, 30, 153, 154, 155, 156, 21, 157, 158, 159, 160, 161, 162, 163, 164, 165, 166, 167, 168, 169, 170, 171, 172, 31, 173, 174, 175, 176, 177, 178, 179, 180, 181, 182, 183, 184, 185, 186, 187, 188, 189, 190, 191, 192, 193, 194, 195, 196, 19, 197, 198, 199, 200, 29, 26, 201, 202, 203, 204, 205, 206, 207, 208, 209, 210, 211, 212, 213, 214, 215, 216, 217, 218, 219, 226, 227, 228, 229, 230, 231, 232, 233, 234, 235, 236, 237, 238, 239, 240, 241, 242] (by decide +kernel) (by decide +kernel)
set_option maxRecDepth 20000 in
theorem gX5_runScript_X0_performGroup : GoodIn wsX5_runScript (va_wsS RX5 317 yX0_performGroup wsX0_performGroup) := goodIn_app (goodIn_of _ (by decide +kernel)) ggX5_runScript_X0_performGroup
theorem dX5_runScript_0 : decode cX5_runScript 0 = .ok (.iload_n 1, 1) := by decide +kernel
theorem dX5_runScript_1 : decode cX5_runScript 1 = .ok (.iconst 1, 1) := by decide +kernel
theorem dX5_runScript_2 : decode cX5_runScript 2 = .ok (.if_icmp .lt 8, 3) := by decide +kernel
theorem dX5_runScript_5 : decode cX5_runScript 5 = .ok (.iload_n 1, 1) := by decide +kernel
theorem dX5_runScript_6 : decode cX5_runScript 6 = .ok (.iconst 3, 1) := by decide +kernel
theorem dX5_runScript_7 : decode cX5_runScript 7 = .ok (.if_icmp .le 14, 3) := by decide +kernel
theorem dX5_runScript_10 : decode cX5_runScript 10 = .ok (.new 41, 3) := by decide +kernel
theorem dX5_runScript_13 : decode cX5_runScript 13 = .ok (.dup, 1) := by decide +kernel
theorem dX5_runScript_14 : decode cX5_runScript 14 = .ok (.ldc_w 307, 3) := by decide +kernel
theorem dX5_runScript_17 : decode cX5_runScript 17 = .ok (.invokespecial 45, 3) := by decide +kernel
theorem dX5_runScript_20 : decode cX5_runScript 20 = .ok (.athrow, 1) := by decide +kernel
theorem dX5_runScript_21 : decode cX5_runScript 21 = .ok (.lload_n 2, 1) := by decide +kernel
theorem dX5_runScript_22 : decode cX5_runScript 22 = .ok (.lconst 0, 1) := by decide +kernel
theorem dX5_runScript_23 : decode cX5_runScript 23 = .ok (.lcmp, 1) := by decide +kernel
theorem dX5_runScript_24 : decode cX5_runScript 24 = .ok (.ifCond .lt 13, 3) := by decide +kernel
theorem dX5_runScript_27 : decode cX5_runScript 27 = .ok (.lload_n 2, 1) := by decide +kernel
theorem dX5_runScript_28 : decode cX5_runScript 28 = .ok (.iload_n 1, 1) := by decide +kernel
theorem dX5_runScript_29 : decode cX5_runScript 29 = .ok (.invokestatic 309, 3) := by decide +kernel
theorem dX5_runScript_32 : decode cX5_runScript 32 = .ok (.lconst 0, 1) := by decide +kernel
theorem dX5_runScript_33 : decode cX5_runScript 33 = .ok (.lcmp, 1) := by decide +kernel
theorem dX5_runScript_34 : decode cX5_runScript 34 = .ok (.ifCond .le 14, 3) := by decide +kernel
theorem dX5_runScript_37 : decode cX5_runScript 37 = .ok (.new 41, 3) := by decide +kernel
theorem dX5_runScript_40 : decode cX5_runScript 40 = .ok (.dup, 1) := by decide +kernel
theorem dX5_runScript_41 : decode cX5_runScript 41 = .ok (.ldc_w 313, 3) := by decide +kernel
theorem dX5_runScript_44 : decode cX5_runScript 44 = .ok (.invokespecial 45, 3) := by decide +kernel
theorem dX5_runScript_47 : decode cX5_runScript 47 = .ok (.athrow, 1) := by decide +kernel
theorem dX5_runScript_48 : decode cX5_runScript 48 = .ok (.aload_n 0, 1) := by decide +kernel
theorem dX5_runScript_49 : decode cX5_runScript 49 = .ok (.getfield 23, 3) := by decide +kernel
theorem dX5_runScript_52 : decode cX5_runScript 52 = .ok (.aload_n 0, 1) := by decide +kernel
theorem dX5_runScript_53 : decode cX5_runScript 53 = .ok (.getfield 19, 3) := by decide +kernel
theorem dX5_runScript_56 : decode cX5_runScript 56 = .ok (.invokevirtual 283, 3) := by decide +kernel
theorem dX5_runScript_59 : decode cX5_runScript 59 = .ok (.iconst 0, 1) := by decide +kernel
theorem dX5_runScript_60 : decode cX5_runScript 60 = .ok (.istore 4, 2) := by decide +kernel
theorem dX5_runScript_62 : decode cX5_runScript 62 = .ok (.iload 4, 2) := by decide +kernel
theorem dX5_runScript_64 : decode cX5_runScript 64 = .ok (.iload_n 1, 1) := by decide +kernel
theorem dX5_runScript_65 : decode cX5_runScript 65 = .ok (.if_icmp .ge 41, 3) := by decide +kernel
theorem dX5_runScript_68 : decode cX5_runScript 68 = .ok (.lload_n 2, 1) := by decide +kernel
theorem dX5_runScript_69 : decode cX5_runScript 69 = .ok (.iload_n 1, 1) := by decide +kernel
theorem dX5_runScript_70 : decode cX5_runScript 70 = .ok (.iconst 1, 1) := by decide +kernel
theorem dX5_runScript_71 : decode cX5_runScript 71 = .ok (.isub, 1) := by decide +kernel
theorem dX5_runScript_72 : decode cX5_runScript 72 = .ok (.iload 4, 2) := by decide +kernel
theorem dX5_runScript_74 : decode cX5_runScript 74 = .ok (.isub, 1) := by decide +kernel
theorem dX5_runScript_75 : decode cX5_runScript 75 = .ok (.invokestatic 309, 3) := by decide +kernel
theorem dX5_runScript_78 : decode cX5_runScript 78 = .ok (.lstore 5, 2) := by decide +kernel
theorem dX5_runScript_80 : decode cX5_runScript 80 = .ok (.aload_n 0, 1) := by decide +kernel
theorem dX5_runScript_81 : decode cX5_runScript 81 = .ok (.getfield 23, 3) := by decide +kernel
theorem dX5_runScript_84 : decode cX5_runScript 84 = .ok (.lload 5, 2) := by decide +kernel
theorem dX5_runScript_86 : decode cX5_runScript 86 = .ok (.ldc2_w 315, 3) := by decide +kernel
theorem dX5_runScript_89 : decode cX5_runScript 89 = .ok (.lrem, 1) := by decide +kernel
theorem dX5_runScript_90 : decode cX5_runScript 90 = .ok (.l2i, 1) := by decide +kernel
theorem dX5_runScript_91 : decode cX5_runScript 91 = .ok (.invokestatic 317, 3) := by decide +kernel
theorem dX5_runScript_94 : decode cX5_runScript 94 = .ok (.ifCond .ne 6, 3) := by decide +kernel
theorem dX5_runScript_97 : decode cX5_runScript 97 = .ok (.iload 4, 2) := by decide +kernel
theorem dX5_runScript_99 : decode cX5_runScript 99 = .ok (.ireturn, 1) := by decide +kernel
theorem dX5_runScript_100 : decode cX5_runScript 100 = .ok (.iinc 4 1, 3) := by decide +kernel
theorem dX5_runScript_103 : decode cX5_runScript 103 = .ok (.goto (-41), 3) := by decide +kernel
theorem dX5_runScript_106 : decode cX5_runScript 106 = .ok (.iconst (-1), 1) := by decide +kernel
theorem dX5_runScript_107 : decode cX5_runScript 107 = .ok (.ireturn, 1) := by decide +kernel
set_option maxRecDepth 20000 in
theorem ggX5_simulate_X2_copyFrom : GoodIn wsX5_simulate wsX2_copyFrom := goodIn_r _ [12, 13, 14, 15, 16, 17, 18, 19, 20, 21, 22, 23, 24, 25, 26, 27, 28, 29, 30, 31, 32, 11, 33, 34, 35, 36, 37, 38, 39, 40, 41, 42, 43, 249, 250, 251, 252, 253, 254, 255, 256, 257, 258, 259, 260, 261, 262, 263, 264, 265] (by decide +kernel) (by decide +kernel)
set_option maxRecDepth 20000 in
theorem gX5_simulate_X2_copyFrom : GoodIn wsX5_simulate (wsV RX5 283 RX2 yX2_copyFrom wsX2_copyFrom) := goodIn_app (goodIn_of _ (by decide +kernel)) ggX5_simulate_X2_copyFrom
set_option maxRecDepth 20000 in
theorem ggX5_simulate_X0_performTurn : GoodIn wsX5_simulate wsX0_performTurn := goodIn_r _ [47, 48, 49, 50, 51, 52, 53, 54, 55, 11, 56, 57, 58, 59, 60, 14, 61, 62, 63, 64, 65, 66, 67, 18, 23, 34, 24, 25, 68, 69, 70, 71, 72, 73, 74, 75, 76, 77, 78, 79, 80, 81, 82, 83, 17, 84, 85, 86, 87, 88, 89, 90, 91, 92, 93, 94, 95, 96, 97, 13, 98, 99, 100, 101, 102, 103, 104, 105, 29, 15, 106, 107, 108, 38, 109, 40, 43, 110, 111, 112, 113, 114, 115, 116, 117, 118, 119, 120, 42, 121, 122, 123, 124, 125, 126, 127, 128, 129, 130, 131, 132, 133, 134, 135, 136, 137, 138, 139, 140, 141, 142, 143, 144, 27, 145, 146, 147, 148, 149, 150, 151, 152, 153, 154, 155, 156, 157, 158, 159, 160, 26, 161, 162, 163, 164, 165, 166, 167, 168, 169, 170, 171, 172, 173, 174, 175, 176, 177, 178, 179, 180, 181, 182, 183, 184, 16, 185, 186, 187, 188, 189, 190, 191, 192, 193, 194, 195, 196, 197, 198, 199, 200, 201, 202, 203, 204, 205, 206, 207, 208, 209, 210, 211, 212, 28, 213, 214, 215, 216, 217, 218, 219, 220, 221, 222, 223, 224, 225, 226, 227, 228, 229, 230, 231, 232, 233, 249, 250, 251, 252, 253, 254, 255, 256, 257, 258, 259, 260, 261, 262, 263, 264, 265] (by decide +kernel) (by decide +kernel)
set_option maxRecDepth 20000 in
theorem gX5_simulate_X0_performTurn : GoodIn wsX5_simulate (va_wsS RX5 327 yX0_performTurn wsX0_performTurn) := goodIn_app (goodIn_of _ (by decide +kernel)) ggX5_simulate_X0_performTurn
set_option maxRecDepth 20000 in
theorem ggX5_simulate_X3_countServed : GoodIn wsX5_simulate wsX3_countServed := goodIn_r _ [237, 238, 239, 240, 38, 241, 40, 263, 264, 265] (by decide +kernel) (by decide +kernel)
set_option maxRecDepth 20000 in
theorem gX5_simulate_X3_countServed : GoodIn wsX5_simulate (wsV RX5 103 RX3 yX3_countServed wsX3_countServed) := goodIn_app (goodIn_of _ (by decide +kernel)) ggX5_simulate_X3_countServed
set_option maxRecDepth 20000 in
theorem ggX5_simulate_X3_countAll : GoodIn wsX5_simulate wsX3_countAll := goodIn_r _ [241, 40, 263, 264, 265] (by decide +kernel) (by decide +kernel)
set_option maxRecDepth 20000 in
theorem gX5_simulate_X3_countAll : GoodIn wsX5_simulate (wsV RX5 97 RX3 yX3_countAll wsX3_countAll) := goodIn_app (goodIn_of _ (by decide +kernel)) ggX5_simulate_X3_countAll
theorem dX5_simulate_0 : decode cX5_simulate 0 = .ok (.iload_n 3, 1) := by decide +kernel
theorem dX5_simulate_1 : decode cX5_simulate 1 = .ok (.iconst 1, 1) := by decide +kernel
theorem dX5_simulate_2 : decode cX5_simulate 2 = .ok (.if_icmp .lt 9, 3) := by decide +kernel
theorem dX5_simulate_5 : decode cX5_simulate 5 = .ok (.iload_n 3, 1) := by decide +kernel
theorem dX5_simulate_6 : decode cX5_simulate 6 = .ok (.bipush 99, 2) := by decide +kernel
theorem dX5_simulate_8 : decode cX5_simulate 8 = .ok (.if_icmp .le 14, 3) := by decide +kernel
theorem dX5_simulate_11 : decode cX5_simulate 11 = .ok (.new 41, 3) := by decide +kernel
theorem dX5_simulate_14 : decode cX5_simulate 14 = .ok (.dup, 1) := by decide +kernel
theorem dX5_simulate_15 : decode cX5_simulate 15 = .ok (.ldc_w 321, 3) := by decide +kernel
theorem dX5_simulate_18 : decode cX5_simulate 18 = .ok (.invokespecial 45, 3) := by decide +kernel
theorem dX5_simulate_21 : decode cX5_simulate 21 = .ok (.athrow, 1) := by decide +kernel
theorem dX5_simulate_22 : decode cX5_simulate 22 = .ok (.aload_n 0, 1) := by decide +kernel
theorem dX5_simulate_23 : decode cX5_simulate 23 = .ok (.getfield 23, 3) := by decide +kernel
theorem dX5_simulate_26 : decode cX5_simulate 26 = .ok (.aload_n 0, 1) := by decide +kernel
theorem dX5_simulate_27 : decode cX5_simulate 27 = .ok (.getfield 19, 3) := by decide +kernel
theorem dX5_simulate_30 : decode cX5_simulate 30 = .ok (.invokevirtual 283, 3) := by decide +kernel
theorem dX5_simulate_33 : decode cX5_simulate 33 = .ok (.lload_n 1, 1) := by decide +kernel
theorem dX5_simulate_34 : decode cX5_simulate 34 = .ok (.lstore 4, 2) := by decide +kernel
theorem dX5_simulate_36 : decode cX5_simulate 36 = .ok (.iconst 0, 1) := by decide +kernel
theorem dX5_simulate_37 : decode cX5_simulate 37 = .ok (.istore 6, 2) := by decide +kernel
theorem dX5_simulate_39 : decode cX5_simulate 39 = .ok (.iload 6, 2) := by decide +kernel
theorem dX5_simulate_41 : decode cX5_simulate 41 = .ok (.iload_n 3, 1) := by decide +kernel
theorem dX5_simulate_42 : decode cX5_simulate 42 = .ok (.if_icmp .ge 35, 3) := by decide +kernel
theorem dX5_simulate_45 : decode cX5_simulate 45 = .ok (.lload 4, 2) := by decide +kernel
theorem dX5_simulate_47 : decode cX5_simulate 47 = .ok (.ldc2_w 323, 3) := by decide +kernel
theorem dX5_simulate_50 : decode cX5_simulate 50 = .ok (.lmul, 1) := by decide +kernel
theorem dX5_simulate_51 : decode cX5_simulate 51 = .ok (.ldc2_w 325, 3) := by decide +kernel
theorem dX5_simulate_54 : decode cX5_simulate 54 = .ok (.ladd, 1) := by decide +kernel
