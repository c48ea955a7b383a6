theorem dX6_pay_7 : decode cX6_pay 7 = .ok (.invokestatic 172, 3) := by decide +kernel
theorem dX6_pay_10 : decode cX6_pay 10 = .ok (.invokevirtual 92, 3) := by decide +kernel
theorem dX6_pay_13 : decode cX6_pay 13 = .ok (.ifCond .eq 5, 3) := by decide +kernel
theorem dX6_pay_16 : decode cX6_pay 16 = .ok (.iconst 0, 1) := by decide +kernel
theorem dX6_pay_17 : decode cX6_pay 17 = .ok (.ireturn, 1) := by decide +kernel
theorem dX6_pay_18 : decode cX6_pay 18 = .ok (.aload_n 0, 1) := by decide +kernel
theorem dX6_pay_19 : decode cX6_pay 19 = .ok (.invokevirtual 169, 3) := by decide +kernel
theorem dX6_pay_22 : decode cX6_pay 22 = .ok (.aload_n 0, 1) := by decide +kernel
theorem dX6_pay_23 : decode cX6_pay 23 = .ok (.getfield 13, 3) := by decide +kernel
theorem dX6_pay_26 : decode cX6_pay 26 = .ok (.iload_n 1, 1) := by decide +kernel
theorem dX6_pay_27 : decode cX6_pay 27 = .ok (.iload_n 2, 1) := by decide +kernel
theorem dX6_pay_28 : decode cX6_pay 28 = .ok (.invokestatic 110, 3) := by decide +kernel
theorem dX6_pay_31 : decode cX6_pay 31 = .ok (.ireturn, 1) := by decide +kernel
set_option maxRecDepth 20000 in
theorem ggX6_move_X6_isChild : GoodIn wsX6_move wsX6_isChild := goodIn_r _ [6, 7, 8, 5, 9] (by decide +kernel) (by decide +kernel)
set_option maxRecDepth 20000 in
theorem gX6_move_X6_isChild : GoodIn wsX6_move (va_wsS RX6 75 yX6_isChild wsX6_isChild) := goodIn_app (goodIn_of _ (by decide +kernel)) ggX6_move_X6_isChild
set_option maxRecDepth 20000 in
theorem ggX6_move_X6_in : GoodIn wsX6_move wsX6_in := goodIn_r _ [9] (by decide +kernel) (by decide +kernel)
set_option maxRecDepth 20000 in
theorem gX6_move_X6_in : GoodIn wsX6_move (va_wsS RX6 37 yX6_in wsX6_in) := goodIn_app (goodIn_of _ (by decide +kernel)) ggX6_move_X6_in
set_option maxRecDepth 20000 in
theorem ggX6_move_X6_refused : GoodIn wsX6_move wsX6_refused := goodIn_r _ [13, 14, 24, 25, 26, 27, 28, 29, 30, 31, 32, 33, 34] (by decide +kernel) (by decide +kernel)
set_option maxRecDepth 20000 in
theorem gX6_move_X6_refused : GoodIn wsX6_move (wsV RX6 92 RX6 yX6_refused wsX6_refused) := goodIn_app (goodIn_of _ (by decide +kernel)) ggX6_move_X6_refused
set_option maxRecDepth 20000 in
theorem ggX6_move_X6_remember : GoodIn wsX6_move wsX6_remember := goodIn_r _ [18, 19, 20, 1, 21, 22, 5, 23, 24, 25, 26, 27, 28, 29, 30, 31, 32, 33, 34] (by decide +kernel) (by decide +kernel)
set_option maxRecDepth 20000 in
theorem gX6_move_X6_remember : GoodIn wsX6_move (wsV RX6 169 RX6 yX6_remember wsX6_remember) := goodIn_app (goodIn_of _ (by decide +kernel)) ggX6_move_X6_remember
theorem dX6_move_0 : decode cX6_move 0 = .ok (.aload_n 0, 1) := by decide +kernel
theorem dX6_move_1 : decode cX6_move 1 = .ok (.aload_n 0, 1) := by decide +kernel
theorem dX6_move_2 : decode cX6_move 2 = .ok (.getfield 13, 3) := by decide +kernel
theorem dX6_move_5 : decode cX6_move 5 = .ok (.iload_n 1, 1) := by decide +kernel
theorem dX6_move_6 : decode cX6_move 6 = .ok (.invokestatic 75, 3) := by decide +kernel
theorem dX6_move_9 : decode cX6_move 9 = .ok (.ifCond .eq 14, 3) := by decide +kernel
theorem dX6_move_12 : decode cX6_move 12 = .ok (.aload_n 0, 1) := by decide +kernel
theorem dX6_move_13 : decode cX6_move 13 = .ok (.getfield 13, 3) := by decide +kernel
theorem dX6_move_16 : decode cX6_move 16 = .ok (.iload_n 2, 1) := by decide +kernel
theorem dX6_move_17 : decode cX6_move 17 = .ok (.invokestatic 75, 3) := by decide +kernel
theorem dX6_move_20 : decode cX6_move 20 = .ok (.ifCond .ne 7, 3) := by decide +kernel
theorem dX6_move_23 : decode cX6_move 23 = .ok (.iconst 1, 1) := by decide +kernel
theorem dX6_move_24 : decode cX6_move 24 = .ok (.goto 63, 3) := by decide +kernel
theorem dX6_move_27 : decode cX6_move 27 = .ok (.iload_n 3, 1) := by decide +kernel
theorem dX6_move_28 : decode cX6_move 28 = .ok (.i2l, 1) := by decide +kernel
theorem dX6_move_29 : decode cX6_move 29 = .ok (.lconst 1, 1) := by decide +kernel
theorem dX6_move_30 : decode cX6_move 30 = .ok (.ldc2_w 85, 3) := by decide +kernel
theorem dX6_move_33 : decode cX6_move 33 = .ok (.invokestatic 37, 3) := by decide +kernel
theorem dX6_move_36 : decode cX6_move 36 = .ok (.ifCond .ne 7, 3) := by decide +kernel
theorem dX6_move_39 : decode cX6_move 39 = .ok (.iconst 2, 1) := by decide +kernel
theorem dX6_move_40 : decode cX6_move 40 = .ok (.goto 47, 3) := by decide +kernel
theorem dX6_move_43 : decode cX6_move 43 = .ok (.iload_n 1, 1) := by decide +kernel
theorem dX6_move_44 : decode cX6_move 44 = .ok (.iload_n 2, 1) := by decide +kernel
theorem dX6_move_45 : decode cX6_move 45 = .ok (.if_icmp .eq 37, 3) := by decide +kernel
theorem dX6_move_48 : decode cX6_move 48 = .ok (.aload_n 0, 1) := by decide +kernel
theorem dX6_move_49 : decode cX6_move 49 = .ok (.getfield 13, 3) := by decide +kernel
theorem dX6_move_52 : decode cX6_move 52 = .ok (.bipush 45, 2) := by decide +kernel
theorem dX6_move_54 : decode cX6_move 54 = .ok (.iload_n 1, 1) := by decide +kernel
theorem dX6_move_55 : decode cX6_move 55 = .ok (.iadd, 1) := by decide +kernel
theorem dX6_move_56 : decode cX6_move 56 = .ok (.iaload, 1) := by decide +kernel
theorem dX6_move_57 : decode cX6_move 57 = .ok (.aload_n 0, 1) := by decide +kernel
theorem dX6_move_58 : decode cX6_move 58 = .ok (.getfield 13, 3) := by decide +kernel
theorem dX6_move_61 : decode cX6_move 61 = .ok (.bipush 45, 2) := by decide +kernel
theorem dX6_move_63 : decode cX6_move 63 = .ok (.iload_n 2, 1) := by decide +kernel
theorem dX6_move_64 : decode cX6_move 64 = .ok (.iadd, 1) := by decide +kernel
theorem dX6_move_65 : decode cX6_move 65 = .ok (.iaload, 1) := by decide +kernel
theorem dX6_move_66 : decode cX6_move 66 = .ok (.if_icmp .ne 16, 3) := by decide +kernel
theorem dX6_move_69 : decode cX6_move 69 = .ok (.aload_n 0, 1) := by decide +kernel
theorem dX6_move_70 : decode cX6_move 70 = .ok (.getfield 13, 3) := by decide +kernel
theorem dX6_move_73 : decode cX6_move 73 = .ok (.bipush 69, 2) := by decide +kernel
theorem dX6_move_75 : decode cX6_move 75 = .ok (.iload_n 1, 1) := by decide +kernel
theorem dX6_move_76 : decode cX6_move 76 = .ok (.iadd, 1) := by decide +kernel
theorem dX6_move_77 : decode cX6_move 77 = .ok (.iaload, 1) := by decide +kernel
theorem dX6_move_78 : decode cX6_move 78 = .ok (.iload_n 3, 1) := by decide +kernel
theorem dX6_move_79 : decode cX6_move 79 = .ok (.if_icmp .ge 7, 3) := by decide +kernel
theorem dX6_move_82 : decode cX6_move 82 = .ok (.iconst 3, 1) := by decide +kernel
theorem dX6_move_83 : decode cX6_move 83 = .ok (.goto 4, 3) := by decide +kernel
theorem dX6_move_86 : decode cX6_move 86 = .ok (.iconst 0, 1) := by decide +kernel
theorem dX6_move_87 : decode cX6_move 87 = .ok (.invokevirtual 92, 3) := by decide +kernel
theorem dX6_move_90 : decode cX6_move 90 = .ok (.ifCond .eq 5, 3) := by decide +kernel
theorem dX6_move_93 : decode cX6_move 93 = .ok (.iconst 0, 1) := by decide +kernel
theorem dX6_move_94 : decode cX6_move 94 = .ok (.ireturn, 1) := by decide +kernel
theorem dX6_move_95 : decode cX6_move 95 = .ok (.aload_n 0, 1) := by decide +kernel
theorem dX6_move_96 : decode cX6_move 96 = .ok (.invokevirtual 169, 3) := by decide +kernel
theorem dX6_move_99 : decode cX6_move 99 = .ok (.aload_n 0, 1) := by decide +kernel
theorem dX6_move_100 : decode cX6_move 100 = .ok (.getfield 13, 3) := by decide +kernel
theorem dX6_move_103 : decode cX6_move 103 = .ok (.bipush 69, 2) := by decide +kernel
theorem dX6_move_105 : decode cX6_move 105 = .ok (.iload_n 1, 1) := by decide +kernel
theorem dX6_move_106 : decode cX6_move 106 = .ok (.iadd, 1) := by decide +kernel
theorem dX6_move_107 : decode cX6_move 107 = .ok (.dup2, 1) := by decide +kernel
theorem dX6_move_108 : decode cX6_move 108 = .ok (.iaload, 1) := by decide +kernel
theorem dX6_move_109 : decode cX6_move 109 = .ok (.iload_n 3, 1) := by decide +kernel
theorem dX6_move_110 : decode cX6_move 110 = .ok (.isub, 1) := by decide +kernel
theorem dX6_move_111 : decode cX6_move 111 = .ok (.iastore, 1) := by decide +kernel
theorem dX6_move_112 : decode cX6_move 112 = .ok (.aload_n 0, 1) := by decide +kernel
theorem dX6_move_113 : decode cX6_move 113 = .ok (.getfield 13, 3) := by decide +kernel
theorem dX6_move_116 : decode cX6_move 116 = .ok (.bipush 69, 2) := by decide +kernel
theorem dX6_move_118 : decode cX6_move 118 = .ok (.iload_n 2, 1) := by decide +kernel
theorem dX6_move_119 : decode cX6_move 119 = .ok (.iadd, 1) := by decide +kernel
theorem dX6_move_120 : decode cX6_move 120 = .ok (.dup2, 1) := by decide +kernel
theorem dX6_move_121 : decode cX6_move 121 = .ok (.iaload, 1) := by decide +kernel
theorem dX6_move_122 : decode cX6_move 122 = .ok (.iload_n 3, 1) := by decide +kernel
theorem dX6_move_123 : decode cX6_move 123 = .ok (.iadd, 1) := by decide +kernel
theorem dX6_move_124 : decode cX6_move 124 = .ok (.iastore, 1) := by decide +kernel
theorem dX6_move_125 : decode cX6_move 125 = .ok (.aload_n 0, 1) := by decide +kernel
theorem dX6_move_126 : decode cX6_move 126 = .ok (.getfield 13, 3) := by decide +kernel
theorem dX6_move_129 : decode cX6_move 129 = .ok (.bipush 69, 2) := by decide +kernel
theorem dX6_move_131 : decode cX6_move 131 = .ok (.iload_n 1, 1) := by decide +kernel
theorem dX6_move_132 : decode cX6_move 132 = .ok (.iadd, 1) := by decide +kernel
theorem dX6_move_133 : decode cX6_move 133 = .ok (.iaload, 1) := by decide +kernel
theorem dX6_move_134 : decode cX6_move 134 = .ok (.ireturn, 1) := by decide +kernel
set_option maxRecDepth 20000 in
theorem ggX6_share_X6_isFamily : GoodIn wsX6_share wsX6_isFamily := goodIn_r _ [5, 6, 7, 8, 4, 9] (by decide +kernel) (by decide +kernel)
set_option maxRecDepth 20000 in
theorem gX6_share_X6_isFamily : GoodIn wsX6_share (va_wsS RX6 162 yX6_isFamily wsX6_isFamily) := goodIn_app (goodIn_of _ (by decide +kernel)) ggX6_share_X6_isFamily
set_option maxRecDepth 20000 in
theorem ggX6_share_X6_refused : GoodIn wsX6_share wsX6_refused := goodIn_r _ [13, 14, 24, 25, 26, 27, 28, 29, 30, 31, 32, 33, 34] (by decide +kernel) (by decide +kernel)
set_option maxRecDepth 20000 in
theorem gX6_share_X6_refused : GoodIn wsX6_share (wsV RX6 92 RX6 yX6_refused wsX6_refused) := goodIn_app (goodIn_of _ (by decide +kernel)) ggX6_share_X6_refused
set_option maxRecDepth 20000 in
theorem ggX6_share_X6_remember : GoodIn wsX6_share wsX6_remember := goodIn_r _ [18, 19, 20, 1, 21, 22, 4, 23, 24, 25, 26, 27, 28, 29, 30, 31, 32, 33, 34] (by decide +kernel) (by decide +kernel)
set_option maxRecDepth 20000 in
theorem gX6_share_X6_remember : GoodIn wsX6_share (wsV RX6 169 RX6 yX6_remember wsX6_remember) := goodIn_app (goodIn_of _ (by decide +kernel)) ggX6_share_X6_remember
theorem dX6_share_0 : decode cX6_share 0 = .ok (.aload_n 0, 1) := by decide +kernel
theorem dX6_share_1 : decode cX6_share 1 = .ok (.iload_n 1, 1) := by decide +kernel
theorem dX6_share_2 : decode cX6_share 2 = .ok (.invokestatic 162, 3) := by decide +kernel
theorem dX6_share_5 : decode cX6_share 5 = .ok (.ifCond .eq 7, 3) := by decide +kernel
theorem dX6_share_8 : decode cX6_share 8 = .ok (.iconst 0, 1) := by decide +kernel
theorem dX6_share_9 : decode cX6_share 9 = .ok (.goto 4, 3) := by decide +kernel
theorem dX6_share_12 : decode cX6_share 12 = .ok (.iconst 1, 1) := by decide +kernel
theorem dX6_share_13 : decode cX6_share 13 = .ok (.invokevirtual 92, 3) := by decide +kernel
theorem dX6_share_16 : decode cX6_share 16 = .ok (.ifCond .eq 5, 3) := by decide +kernel
theorem dX6_share_19 : decode cX6_share 19 = .ok (.iconst 0, 1) := by decide +kernel
theorem dX6_share_20 : decode cX6_share 20 = .ok (.ireturn, 1) := by decide +kernel
theorem dX6_share_21 : decode cX6_share 21 = .ok (.aload_n 0, 1) := by decide +kernel
theorem dX6_share_22 : decode cX6_share 22 = .ok (.invokevirtual 169, 3) := by decide +kernel
theorem dX6_share_25 : decode cX6_share 25 = .ok (.aload_n 0, 1) := by decide +kernel
theorem dX6_share_26 : decode cX6_share 26 = .ok (.getfield 13, 3) := by decide +kernel
theorem dX6_share_29 : decode cX6_share 29 = .ok (.bipush 105, 2) := by decide +kernel
theorem dX6_share_31 : decode cX6_share 31 = .ok (.iload_n 1, 1) := by decide +kernel
theorem dX6_share_32 : decode cX6_share 32 = .ok (.iadd, 1) := by decide +kernel
theorem dX6_share_33 : decode cX6_share 33 = .ok (.iload_n 2, 1) := by decide +kernel
theorem dX6_share_34 : decode cX6_share 34 = .ok (.ifCond .eq 7, 3) := by decide +kernel
theorem dX6_share_37 : decode cX6_share 37 = .ok (.iconst 1, 1) := by decide +kernel
theorem dX6_share_38 : decode cX6_share 38 = .ok (.goto 4, 3) := by decide +kernel
theorem dX6_share_41 : decode cX6_share 41 = .ok (.iconst 0, 1) := by decide +kernel
theorem dX6_share_42 : decode cX6_share 42 = .ok (.iastore, 1) := by decide +kernel
theorem dX6_share_43 : decode cX6_share 43 = .ok (.iconst 0, 1) := by decide +kernel
theorem dX6_share_44 : decode cX6_share 44 = .ok (.istore_n 3, 1) := by decide +kernel
theorem dX6_share_45 : decode cX6_share 45 = .ok (.iconst 0, 1) := by decide +kernel
theorem dX6_share_46 : decode cX6_share 46 = .ok (.istore 4, 2) := by decide +kernel
theorem dX6_share_48 : decode cX6_share 48 = .ok (.iload 4, 2) := by decide +kernel
theorem dX6_share_50 : decode cX6_share 50 = .ok (.aload_n 0, 1) := by decide +kernel
theorem dX6_share_51 : decode cX6_share 51 = .ok (.getfield 13, 3) := by decide +kernel
theorem dX6_share_54 : decode cX6_share 54 = .ok (.iconst 1, 1) := by decide +kernel
theorem dX6_share_55 : decode cX6_share 55 = .ok (.iaload, 1) := by decide +kernel
theorem dX6_share_56 : decode cX6_share 56 = .ok (.if_icmp .ge 40, 3) := by decide +kernel
theorem dX6_share_59 : decode cX6_share 59 = .ok (.iload_n 3, 1) := by decide +kernel
theorem dX6_share_60 : decode cX6_share 60 = .ok (.aload_n 0, 1) := by decide +kernel
theorem dX6_share_61 : decode cX6_share 61 = .ok (.getfield 13, 3) := by decide +kernel
theorem dX6_share_64 : decode cX6_share 64 = .ok (.bipush 45, 2) := by decide +kernel
theorem dX6_share_66 : decode cX6_share 66 = .ok (.iload 4, 2) := by decide +kernel
theorem dX6_share_68 : decode cX6_share 68 = .ok (.iadd, 1) := by decide +kernel
theorem dX6_share_69 : decode cX6_share 69 = .ok (.iaload, 1) := by decide +kernel
theorem dX6_share_70 : decode cX6_share 70 = .ok (.iload_n 1, 1) := by decide +kernel
theorem dX6_share_71 : decode cX6_share 71 = .ok (.if_icmp .ne 16, 3) := by decide +kernel
theorem dX6_share_74 : decode cX6_share 74 = .ok (.aload_n 0, 1) := by decide +kernel
theorem dX6_share_75 : decode cX6_share 75 = .ok (.getfield 13, 3) := by decide +kernel
theorem dX6_share_78 : decode cX6_share 78 = .ok (.bipush 69, 2) := by decide +kernel
theorem dX6_share_80 : decode cX6_share 80 = .ok (.iload 4, 2) := by decide +kernel
theorem dX6_share_82 : decode cX6_share 82 = .ok (.iadd, 1) := by decide +kernel
theorem dX6_share_83 : decode cX6_share 83 = .ok (.iaload, 1) := by decide +kernel
theorem dX6_share_84 : decode cX6_share 84 = .ok (.goto 4, 3) := by decide +kernel
theorem dX6_share_87 : decode cX6_share 87 = .ok (.iconst 0, 1) := by decide +kernel
theorem dX6_share_88 : decode cX6_share 88 = .ok (.iadd, 1) := by decide +kernel
theorem dX6_share_89 : decode cX6_share 89 = .ok (.istore_n 3, 1) := by decide +kernel
theorem dX6_share_90 : decode cX6_share 90 = .ok (.iinc 4 1, 3) := by decide +kernel
theorem dX6_share_93 : decode cX6_share 93 = .ok (.goto (-45), 3) := by decide +kernel
theorem dX6_share_96 : decode cX6_share 96 = .ok (.iload_n 3, 1) := by decide +kernel
theorem dX6_share_97 : decode cX6_share 97 = .ok (.ireturn, 1) := by decide +kernel
set_option maxRecDepth 20000 in
theorem ggX6_entitle_X6_whyNotEntitle : GoodIn wsX6_entitle wsX6_whyNotEntitle := goodIn_r _ [5, 6, 7, 8, 4, 9, 10, 11, 12, 13, 14, 15] (by decide +kernel) (by decide +kernel)
set_option maxRecDepth 20000 in
theorem gX6_entitle_X6_whyNotEntitle : GoodIn wsX6_entitle (va_wsS RX6 113 yX6_whyNotEntitle wsX6_whyNotEntitle) := goodIn_app (goodIn_of _ (by decide +kernel)) ggX6_entitle_X6_whyNotEntitle
set_option maxRecDepth 20000 in
theorem ggX6_entitle_X6_refused : GoodIn wsX6_entitle wsX6_refused := goodIn_r _ [19, 20, 42, 43, 44, 45, 46, 47, 48, 49, 50, 51, 52] (by decide +kernel) (by decide +kernel)
set_option maxRecDepth 20000 in
theorem gX6_entitle_X6_refused : GoodIn wsX6_entitle (wsV RX6 92 RX6 yX6_refused wsX6_refused) := goodIn_app (goodIn_of _ (by decide +kernel)) ggX6_entitle_X6_refused
set_option maxRecDepth 20000 in
theorem ggX6_entitle_X6_remember : GoodIn wsX6_entitle wsX6_remember := goodIn_r _ [24, 25, 26, 1, 27, 28, 4, 29, 42, 43, 44, 45, 46, 47, 48, 49, 50, 51, 52] (by decide +kernel) (by decide +kernel)
set_option maxRecDepth 20000 in
theorem gX6_entitle_X6_remember : GoodIn wsX6_entitle (wsV RX6 169 RX6 yX6_remember wsX6_remember) := goodIn_app (goodIn_of _ (by decide +kernel)) ggX6_entitle_X6_remember
set_option maxRecDepth 20000 in
theorem ggX6_entitle_X6_entitleOn : GoodIn wsX6_entitle wsX6_entitleOn := goodIn_r _ [32, 33, 34, 4, 35, 36, 37, 38, 39, 40, 41, 10, 11, 12] (by decide +kernel) (by decide +kernel)
set_option maxRecDepth 20000 in
theorem gX6_entitle_X6_entitleOn : GoodIn wsX6_entitle (va_wsS RX6 116 yX6_entitleOn wsX6_entitleOn) := goodIn_app (goodIn_of _ (by decide +kernel)) ggX6_entitle_X6_entitleOn
theorem dX6_entitle_0 : decode cX6_entitle 0 = .ok (.aload_n 0, 1) := by decide +kernel
theorem dX6_entitle_1 : decode cX6_entitle 1 = .ok (.aload_n 0, 1) := by decide +kernel
theorem dX6_entitle_2 : decode cX6_entitle 2 = .ok (.getfield 13, 3) := by decide +kernel
theorem dX6_entitle_5 : decode cX6_entitle 5 = .ok (.iload_n 1, 1) := by decide +kernel
theorem dX6_entitle_6 : decode cX6_entitle 6 = .ok (.iload_n 2, 1) := by decide +kernel
theorem dX6_entitle_7 : decode cX6_entitle 7 = .ok (.iload_n 3, 1) := by decide +kernel
theorem dX6_entitle_8 : decode cX6_entitle 8 = .ok (.invokestatic 113, 3) := by decide +kernel
theorem dX6_entitle_11 : decode cX6_entitle 11 = .ok (.invokevirtual 92, 3) := by decide +kernel
theorem dX6_entitle_14 : decode cX6_entitle 14 = .ok (.ifCond .eq 5, 3) := by decide +kernel
theorem dX6_entitle_17 : decode cX6_entitle 17 = .ok (.iconst 0, 1) := by decide +kernel
theorem dX6_entitle_18 : decode cX6_entitle 18 = .ok (.ireturn, 1) := by decide +kernel
theorem dX6_entitle_19 : decode cX6_entitle 19 = .ok (.aload_n 0, 1) := by decide +kernel
theorem dX6_entitle_20 : decode cX6_entitle 20 = .ok (.invokevirtual 169, 3) := by decide +kernel
theorem dX6_entitle_23 : decode cX6_entitle 23 = .ok (.aload_n 0, 1) := by decide +kernel
theorem dX6_entitle_24 : decode cX6_entitle 24 = .ok (.getfield 13, 3) := by decide +kernel
theorem dX6_entitle_27 : decode cX6_entitle 27 = .ok (.iload_n 1, 1) := by decide +kernel
theorem dX6_entitle_28 : decode cX6_entitle 28 = .ok (.iload_n 2, 1) := by decide +kernel
theorem dX6_entitle_29 : decode cX6_entitle 29 = .ok (.iload_n 3, 1) := by decide +kernel
theorem dX6_entitle_30 : decode cX6_entitle 30 = .ok (.invokestatic 116, 3) := by decide +kernel
theorem dX6_entitle_33 : decode cX6_entitle 33 = .ok (.ireturn, 1) := by decide +kernel
set_option maxRecDepth 20000 in
theorem ggX6_writeOff_X6_isFamily : GoodIn wsX6_writeOff wsX6_isFamily := goodIn_r _ [5, 6, 7, 8, 4, 9] (by decide +kernel) (by decide +kernel)
set_option maxRecDepth 20000 in
theorem gX6_writeOff_X6_isFamily : GoodIn wsX6_writeOff (va_wsS RX6 162 yX6_isFamily wsX6_isFamily) := goodIn_app (goodIn_of _ (by decide +kernel)) ggX6_writeOff_X6_isFamily
set_option maxRecDepth 20000 in
theorem ggX6_writeOff_X6_debt : GoodIn wsX6_writeOff wsX6_debt := goodIn_r _ [12] (by decide +kernel) (by decide +kernel)
set_option maxRecDepth 20000 in
theorem gX6_writeOff_X6_debt : GoodIn wsX6_writeOff (va_wsS RX6 72 yX6_debt wsX6_debt) := goodIn_app (goodIn_of _ (by decide +kernel)) ggX6_writeOff_X6_debt
set_option maxRecDepth 20000 in
theorem ggX6_writeOff_X6_refused : GoodIn wsX6_writeOff wsX6_refused := goodIn_r _ [16, 17, 30, 31, 32, 33, 34, 35, 36, 37, 38, 39, 40] (by decide +kernel) (by decide +kernel)
set_option maxRecDepth 20000 in
theorem gX6_writeOff_X6_refused : GoodIn wsX6_writeOff (wsV RX6 92 RX6 yX6_refused wsX6_refused) := goodIn_app (goodIn_of _ (by decide +kernel)) ggX6_writeOff_X6_refused
set_option maxRecDepth 20000 in
theorem ggX6_writeOff_X6_remember : GoodIn wsX6_writeOff wsX6_remember := goodIn_r _ [21, 22, 23, 1, 24, 25, 4, 26, 30, 31, 32, 33, 34, 35, 36, 37, 38, 39, 40] (by decide +kernel) (by decide +kernel)
set_option maxRecDepth 20000 in
theorem gX6_writeOff_X6_remember : GoodIn wsX6_writeOff (wsV RX6 169 RX6 yX6_remember wsX6_remember) := goodIn_app (goodIn_of _ (by decide +kernel)) ggX6_writeOff_X6_remember
set_option maxRecDepth 20000 in
theorem ggX6_writeOff_X6_writeOffOn : GoodIn wsX6_writeOff wsX6_writeOffOn := goodIn_r _ [29, 10, 11, 4, 12] (by decide +kernel) (by decide +kernel)
set_option maxRecDepth 20000 in
theorem gX6_writeOff_X6_writeOffOn : GoodIn wsX6_writeOff (va_wsS RX6 175 yX6_writeOffOn wsX6_writeOffOn) := goodIn_app (goodIn_of _ (by decide +kernel)) ggX6_writeOff_X6_writeOffOn
theorem dX6_writeOff_0 : decode cX6_writeOff 0 = .ok (.aload_n 0, 1) := by decide +kernel
theorem dX6_writeOff_1 : decode cX6_writeOff 1 = .ok (.iload_n 1, 1) := by decide +kernel
theorem dX6_writeOff_2 : decode cX6_writeOff 2 = .ok (.invokestatic 162, 3) := by decide +kernel
theorem dX6_writeOff_5 : decode cX6_writeOff 5 = .ok (.ifCond .ne 7, 3) := by decide +kernel
theorem dX6_writeOff_8 : decode cX6_writeOff 8 = .ok (.iconst 1, 1) := by decide +kernel
theorem dX6_writeOff_9 : decode cX6_writeOff 9 = .ok (.goto 19, 3) := by decide +kernel
theorem dX6_writeOff_12 : decode cX6_writeOff 12 = .ok (.aload_n 0, 1) := by decide +kernel
theorem dX6_writeOff_13 : decode cX6_writeOff 13 = .ok (.getfield 13, 3) := by decide +kernel
theorem dX6_writeOff_16 : decode cX6_writeOff 16 = .ok (.iload_n 1, 1) := by decide +kernel
theorem dX6_writeOff_17 : decode cX6_writeOff 17 = .ok (.invokestatic 72, 3) := by decide +kernel
theorem dX6_writeOff_20 : decode cX6_writeOff 20 = .ok (.ifCond .ne 7, 3) := by decide +kernel
theorem dX6_writeOff_23 : decode cX6_writeOff 23 = .ok (.iconst 2, 1) := by decide +kernel
theorem dX6_writeOff_24 : decode cX6_writeOff 24 = .ok (.goto 4, 3) := by decide +kernel
theorem dX6_writeOff_27 : decode cX6_writeOff 27 = .ok (.iconst 0, 1) := by decide +kernel
theorem dX6_writeOff_28 : decode cX6_writeOff 28 = .ok (.invokevirtual 92, 3) := by decide +kernel
theorem dX6_writeOff_31 : decode cX6_writeOff 31 = .ok (.ifCond .eq 5, 3) := by decide +kernel
theorem dX6_writeOff_34 : decode cX6_writeOff 34 = .ok (.iconst 0, 1) := by decide +kernel
theorem dX6_writeOff_35 : decode cX6_writeOff 35 = .ok (.ireturn, 1) := by decide +kernel
theorem dX6_writeOff_36 : decode cX6_writeOff 36 = .ok (.aload_n 0, 1) := by decide +kernel
theorem dX6_writeOff_37 : decode cX6_writeOff 37 = .ok (.invokevirtual 169, 3) := by decide +kernel
theorem dX6_writeOff_40 : decode cX6_writeOff 40 = .ok (.aload_n 0, 1) := by decide +kernel
theorem dX6_writeOff_41 : decode cX6_writeOff 41 = .ok (.getfield 13, 3) := by decide +kernel
theorem dX6_writeOff_44 : decode cX6_writeOff 44 = .ok (.iload_n 1, 1) := by decide +kernel
theorem dX6_writeOff_45 : decode cX6_writeOff 45 = .ok (.invokestatic 175, 3) := by decide +kernel
theorem dX6_writeOff_48 : decode cX6_writeOff 48 = .ok (.ireturn, 1) := by decide +kernel
set_option maxRecDepth 20000 in
theorem ggX6_days_X6_in : GoodIn wsX6_days wsX6_in := goodIn_r _ [6] (by decide +kernel) (by decide +kernel)
set_option maxRecDepth 20000 in
theorem gX6_days_X6_in : GoodIn wsX6_days (va_wsS RX6 37 yX6_in wsX6_in) := goodIn_app (goodIn_of _ (by decide +kernel)) ggX6_days_X6_in
set_option maxRecDepth 20000 in
theorem ggX6_days_X6_canGoBy : GoodIn wsX6_days wsX6_canGoBy := goodIn_r _ [9, 3, 4, 5, 6] (by decide +kernel) (by decide +kernel)
set_option maxRecDepth 20000 in
theorem gX6_days_X6_canGoBy : GoodIn wsX6_days (va_wsS RX6 119 yX6_canGoBy wsX6_canGoBy) := goodIn_app (goodIn_of _ (by decide +kernel)) ggX6_days_X6_canGoBy
set_option maxRecDepth 20000 in
theorem ggX6_days_X6_refused : GoodIn wsX6_days wsX6_refused := goodIn_r _ [13, 14, 45, 46, 47, 48, 49, 50, 51, 52, 53, 54, 55] (by decide +kernel) (by decide +kernel)
set_option maxRecDepth 20000 in
theorem gX6_days_X6_refused : GoodIn wsX6_days (wsV RX6 92 RX6 yX6_refused wsX6_refused) := goodIn_app (goodIn_of _ (by decide +kernel)) ggX6_days_X6_refused
set_option maxRecDepth 20000 in
theorem ggX6_days_X6_remember : GoodIn wsX6_days wsX6_remember := goodIn_r _ [18, 19, 20, 2, 21, 22, 5, 23, 45, 46, 47, 48, 49, 50, 51, 52, 53, 54, 55] (by decide +kernel) (by decide +kernel)
set_option maxRecDepth 20000 in
theorem gX6_days_X6_remember : GoodIn wsX6_days (wsV RX6 169 RX6 yX6_remember wsX6_remember) := goodIn_app (goodIn_of _ (by decide +kernel)) ggX6_days_X6_remember
set_option maxRecDepth 20000 in
theorem ggX6_days_X6_daysOn : GoodIn wsX6_days wsX6_daysOn := goodIn_r _ [26, 27, 28, 5, 29, 30, 31, 32, 33, 34, 35, 36, 37, 38, 39, 40, 41, 3, 4, 6, 42, 43, 44] (by decide +kernel) (by decide +kernel)
set_option maxRecDepth 20000 in
theorem gX6_days_X6_daysOn : GoodIn wsX6_days (va_wsS RX6 122 yX6_daysOn wsX6_daysOn) := goodIn_app (goodIn_of _ (by decide +kernel)) ggX6_days_X6_daysOn
theorem dX6_days_0 : decode cX6_days 0 = .ok (.aload_n 0, 1) := by decide +kernel
theorem dX6_days_1 : decode cX6_days 1 = .ok (.iload_n 1, 1) := by decide +kernel
theorem dX6_days_2 : decode cX6_days 2 = .ok (.i2l, 1) := by decide +kernel
theorem dX6_days_3 : decode cX6_days 3 = .ok (.lconst 1, 1) := by decide +kernel
theorem dX6_days_4 : decode cX6_days 4 = .ok (.ldc2_w 178, 3) := by decide +kernel
theorem dX6_days_7 : decode cX6_days 7 = .ok (.invokestatic 37, 3) := by decide +kernel
theorem dX6_days_10 : decode cX6_days 10 = .ok (.ifCond .ne 7, 3) := by decide +kernel
theorem dX6_days_13 : decode cX6_days 13 = .ok (.iconst 1, 1) := by decide +kernel
theorem dX6_days_14 : decode cX6_days 14 = .ok (.goto 19, 3) := by decide +kernel
theorem dX6_days_17 : decode cX6_days 17 = .ok (.aload_n 0, 1) := by decide +kernel
theorem dX6_days_18 : decode cX6_days 18 = .ok (.getfield 13, 3) := by decide +kernel
theorem dX6_days_21 : decode cX6_days 21 = .ok (.iload_n 1, 1) := by decide +kernel
theorem dX6_days_22 : decode cX6_days 22 = .ok (.invokestatic 119, 3) := by decide +kernel
theorem dX6_days_25 : decode cX6_days 25 = .ok (.ifCond .eq 7, 3) := by decide +kernel
theorem dX6_days_28 : decode cX6_days 28 = .ok (.iconst 0, 1) := by decide +kernel
theorem dX6_days_29 : decode cX6_days 29 = .ok (.goto 4, 3) := by decide +kernel
theorem dX6_days_32 : decode cX6_days 32 = .ok (.iconst 2, 1) := by decide +kernel
theorem dX6_days_33 : decode cX6_days 33 = .ok (.invokevirtual 92, 3) := by decide +kernel
theorem dX6_days_36 : decode cX6_days 36 = .ok (.ifCond .eq 5, 3) := by decide +kernel
theorem dX6_days_39 : decode cX6_days 39 = .ok (.iconst 0, 1) := by decide +kernel
theorem dX6_days_40 : decode cX6_days 40 = .ok (.ireturn, 1) := by decide +kernel
theorem dX6_days_41 : decode cX6_days 41 = .ok (.aload_n 0, 1) := by decide +kernel
theorem dX6_days_42 : decode cX6_days 42 = .ok (.invokevirtual 169, 3) := by decide +kernel
theorem dX6_days_45 : decode cX6_days 45 = .ok (.aload_n 0, 1) := by decide +kernel
theorem dX6_days_46 : decode cX6_days 46 = .ok (.getfield 13, 3) := by decide +kernel
theorem dX6_days_49 : decode cX6_days 49 = .ok (.iload_n 1, 1) := by decide +kernel
theorem dX6_days_50 : decode cX6_days 50 = .ok (.invokestatic 122, 3) := by decide +kernel
theorem dX6_days_53 : decode cX6_days 53 = .ok (.ireturn, 1) := by decide +kernel
set_option maxRecDepth 20000 in
theorem ggX6_set_X6_in : GoodIn wsX6_set wsX6_in := goodIn_r _ [7] (by decide +kernel) (by decide +kernel)
set_option maxRecDepth 20000 in
theorem gX6_set_X6_in : GoodIn wsX6_set (va_wsS RX6 37 yX6_in wsX6_in) := goodIn_app (goodIn_of _ (by decide +kernel)) ggX6_set_X6_in
set_option maxRecDepth 20000 in
theorem ggX6_set_X6_refused : GoodIn wsX6_set wsX6_refused := goodIn_r _ [11, 12, 22, 23, 24, 25, 26, 27, 28, 29, 30, 31, 32] (by decide +kernel) (by decide +kernel)
set_option maxRecDepth 20000 in
theorem gX6_set_X6_refused : GoodIn wsX6_set (wsV RX6 92 RX6 yX6_refused wsX6_refused) := goodIn_app (goodIn_of _ (by decide +kernel)) ggX6_set_X6_refused
set_option maxRecDepth 20000 in
theorem ggX6_set_X6_remember : GoodIn wsX6_set wsX6_remember := goodIn_r _ [16, 17, 18, 3, 19, 20, 6, 21, 22, 23, 24, 25, 26, 27, 28, 29, 30, 31, 32] (by decide +kernel) (by decide +kernel)
set_option maxRecDepth 20000 in
theorem gX6_set_X6_remember : GoodIn wsX6_set (wsV RX6 169 RX6 yX6_remember wsX6_remember) := goodIn_app (goodIn_of _ (by decide +kernel)) ggX6_set_X6_remember
theorem dX6_set_0 : decode cX6_set 0 = .ok (.aload_n 0, 1) := by decide +kernel
theorem dX6_set_1 : decode cX6_set 1 = .ok (.iload_n 1, 1) := by decide +kernel
theorem dX6_set_2 : decode cX6_set 2 = .ok (.ifCond .ne 15, 3) := by decide +kernel
theorem dX6_set_5 : decode cX6_set 5 = .ok (.iload_n 2, 1) := by decide +kernel
theorem dX6_set_6 : decode cX6_set 6 = .ok (.i2l, 1) := by decide +kernel
theorem dX6_set_7 : decode cX6_set 7 = .ok (.lconst 1, 1) := by decide +kernel
theorem dX6_set_8 : decode cX6_set 8 = .ok (.ldc2_w 180, 3) := by decide +kernel
theorem dX6_set_11 : decode cX6_set 11 = .ok (.invokestatic 37, 3) := by decide +kernel
theorem dX6_set_14 : decode cX6_set 14 = .ok (.ifCond .ne 20, 3) := by decide +kernel
theorem dX6_set_17 : decode cX6_set 17 = .ok (.iload_n 1, 1) := by decide +kernel
theorem dX6_set_18 : decode cX6_set 18 = .ok (.iconst 1, 1) := by decide +kernel
theorem dX6_set_19 : decode cX6_set 19 = .ok (.if_icmp .ne 19, 3) := by decide +kernel
theorem dX6_set_22 : decode cX6_set 22 = .ok (.iload_n 2, 1) := by decide +kernel
theorem dX6_set_23 : decode cX6_set 23 = .ok (.i2l, 1) := by decide +kernel
theorem dX6_set_24 : decode cX6_set 24 = .ok (.lconst 0, 1) := by decide +kernel
theorem dX6_set_25 : decode cX6_set 25 = .ok (.ldc2_w 85, 3) := by decide +kernel
theorem dX6_set_28 : decode cX6_set 28 = .ok (.invokestatic 37, 3) := by decide +kernel
theorem dX6_set_31 : decode cX6_set 31 = .ok (.ifCond .eq 7, 3) := by decide +kernel
theorem dX6_set_34 : decode cX6_set 34 = .ok (.iconst 0, 1) := by decide +kernel
theorem dX6_set_35 : decode cX6_set 35 = .ok (.goto 4, 3) := by decide +kernel
theorem dX6_set_38 : decode cX6_set 38 = .ok (.iconst 1, 1) := by decide +kernel
theorem dX6_set_39 : decode cX6_set 39 = .ok (.invokevirtual 92, 3) := by decide +kernel
theorem dX6_set_42 : decode cX6_set 42 = .ok (.ifCond .eq 5, 3) := by decide +kernel
theorem dX6_set_45 : decode cX6_set 45 = .ok (.iconst 0, 1) := by decide +kernel
theorem dX6_set_46 : decode cX6_set 46 = .ok (.ireturn, 1) := by decide +kernel
theorem dX6_set_47 : decode cX6_set 47 = .ok (.aload_n 0, 1) := by decide +kernel
theorem dX6_set_48 : decode cX6_set 48 = .ok (.invokevirtual 169, 3) := by decide +kernel
theorem dX6_set_51 : decode cX6_set 51 = .ok (.aload_n 0, 1) := by decide +kernel
theorem dX6_set_52 : decode cX6_set 52 = .ok (.getfield 13, 3) := by decide +kernel
theorem dX6_set_55 : decode cX6_set 55 = .ok (.iconst 2, 1) := by decide +kernel
theorem dX6_set_56 : decode cX6_set 56 = .ok (.iload_n 1, 1) := by decide +kernel
theorem dX6_set_57 : decode cX6_set 57 = .ok (.iadd, 1) := by decide +kernel
theorem dX6_set_58 : decode cX6_set 58 = .ok (.iaload, 1) := by decide +kernel
theorem dX6_set_59 : decode cX6_set 59 = .ok (.istore_n 3, 1) := by decide +kernel
theorem dX6_set_60 : decode cX6_set 60 = .ok (.aload_n 0, 1) := by decide +kernel
theorem dX6_set_61 : decode cX6_set 61 = .ok (.getfield 13, 3) := by decide +kernel
theorem dX6_set_64 : decode cX6_set 64 = .ok (.iconst 2, 1) := by decide +kernel
theorem dX6_set_65 : decode cX6_set 65 = .ok (.iload_n 1, 1) := by decide +kernel
theorem dX6_set_66 : decode cX6_set 66 = .ok (.iadd, 1) := by decide +kernel
theorem dX6_set_67 : decode cX6_set 67 = .ok (.iload_n 2, 1) := by decide +kernel
theorem dX6_set_68 : decode cX6_set 68 = .ok (.iastore, 1) := by decide +kernel
theorem dX6_set_69 : decode cX6_set 69 = .ok (.iload_n 3, 1) := by decide +kernel
theorem dX6_set_70 : decode cX6_set 70 = .ok (.ireturn, 1) := by decide +kernel
set_option maxRecDepth 20000 in
theorem ggX6_undo_X6_refused : GoodIn wsX6_undo wsX6_refused := goodIn_r _ [8, 9, 13, 14, 15, 16, 17, 18, 19, 20, 21, 22, 23] (by decide +kernel) (by decide +kernel)
set_option maxRecDepth 20000 in
theorem gX6_undo_X6_refused : GoodIn wsX6_undo (wsV RX6 92 RX6 yX6_refused wsX6_refused) := goodIn_app (goodIn_of _ (by decide +kernel)) ggX6_undo_X6_refused
set_option maxRecDepth 20000 in
theorem ggX6_undo_X6_copyTerm : GoodIn wsX6_undo wsX6_copyTerm := goodIn_r _ [12] (by decide +kernel) (by decide +kernel)
set_option maxRecDepth 20000 in
theorem gX6_undo_X6_copyTerm : GoodIn wsX6_undo (va_wsS RX6 144 yX6_copyTerm wsX6_copyTerm) := goodIn_app (goodIn_of _ (by decide +kernel)) ggX6_undo_X6_copyTerm
theorem dX6_undo_0 : decode cX6_undo 0 = .ok (.aload_n 0, 1) := by decide +kernel
theorem dX6_undo_1 : decode cX6_undo 1 = .ok (.aload_n 0, 1) := by decide +kernel
theorem dX6_undo_2 : decode cX6_undo 2 = .ok (.getfield 148, 3) := by decide +kernel
theorem dX6_undo_5 : decode cX6_undo 5 = .ok (.ifCond .ne 7, 3) := by decide +kernel
theorem dX6_undo_8 : decode cX6_undo 8 = .ok (.iconst 1, 1) := by decide +kernel
theorem dX6_undo_9 : decode cX6_undo 9 = .ok (.goto 4, 3) := by decide +kernel
theorem dX6_undo_12 : decode cX6_undo 12 = .ok (.iconst 0, 1) := by decide +kernel
theorem dX6_undo_13 : decode cX6_undo 13 = .ok (.invokevirtual 92, 3) := by decide +kernel
theorem dX6_undo_16 : decode cX6_undo 16 = .ok (.ifCond .eq 5, 3) := by decide +kernel
theorem dX6_undo_19 : decode cX6_undo 19 = .ok (.iconst 0, 1) := by decide +kernel
theorem dX6_undo_20 : decode cX6_undo 20 = .ok (.ireturn, 1) := by decide +kernel
theorem dX6_undo_21 : decode cX6_undo 21 = .ok (.aload_n 0, 1) := by decide +kernel
theorem dX6_undo_22 : decode cX6_undo 22 = .ok (.dup, 1) := by decide +kernel
theorem dX6_undo_23 : decode cX6_undo 23 = .ok (.getfield 148, 3) := by decide +kernel
theorem dX6_undo_26 : decode cX6_undo 26 = .ok (.iconst 1, 1) := by decide +kernel
theorem dX6_undo_27 : decode cX6_undo 27 = .ok (.isub, 1) := by decide +kernel
theorem dX6_undo_28 : decode cX6_undo 28 = .ok (.putfield 148, 3) := by decide +kernel
theorem dX6_undo_31 : decode cX6_undo 31 = .ok (.aload_n 0, 1) := by decide +kernel
theorem dX6_undo_32 : decode cX6_undo 32 = .ok (.getfield 19, 3) := by decide +kernel
theorem dX6_undo_35 : decode cX6_undo 35 = .ok (.sipush 1555, 3) := by decide +kernel
theorem dX6_undo_38 : decode cX6_undo 38 = .ok (.aload_n 0, 1) := by decide +kernel
theorem dX6_undo_39 : decode cX6_undo 39 = .ok (.getfield 148, 3) := by decide +kernel
theorem dX6_undo_42 : decode cX6_undo 42 = .ok (.imul, 1) := by decide +kernel
theorem dX6_undo_43 : decode cX6_undo 43 = .ok (.aload_n 0, 1) := by decide +kernel
theorem dX6_undo_44 : decode cX6_undo 44 = .ok (.getfield 13, 3) := by decide +kernel
theorem dX6_undo_47 : decode cX6_undo 47 = .ok (.iconst 0, 1) := by decide +kernel
theorem dX6_undo_48 : decode cX6_undo 48 = .ok (.invokestatic 144, 3) := by decide +kernel
theorem dX6_undo_51 : decode cX6_undo 51 = .ok (.aload_n 0, 1) := by decide +kernel
theorem dX6_undo_52 : decode cX6_undo 52 = .ok (.getfield 148, 3) := by decide +kernel
theorem dX6_undo_55 : decode cX6_undo 55 = .ok (.ireturn, 1) := by decide +kernel
set_option maxRecDepth 20000 in
theorem ggX6_goOn_X6_daysOn : GoodIn wsX6_goOn wsX6_daysOn := goodIn_r _ [5, 6, 7, 4, 8, 9, 10, 11, 12, 13, 14, 15, 16, 17, 18, 19, 20, 21, 22, 23, 24, 25, 26] (by decide +kernel) (by decide +kernel)
set_option maxRecDepth 20000 in
theorem gX6_goOn_X6_daysOn : GoodIn wsX6_goOn (va_wsS RX6 122 yX6_daysOn wsX6_daysOn) := goodIn_app (goodIn_of _ (by decide +kernel)) ggX6_goOn_X6_daysOn
theorem dX6_goOn_0 : decode cX6_goOn 0 = .ok (.aload_n 0, 1) := by decide +kernel
theorem dX6_goOn_1 : decode cX6_goOn 1 = .ok (.getfield 16, 3) := by decide +kernel
theorem dX6_goOn_4 : decode cX6_goOn 4 = .ok (.bipush 40, 2) := by decide +kernel
theorem dX6_goOn_6 : decode cX6_goOn 6 = .ok (.aload_n 0, 1) := by decide +kernel
theorem dX6_goOn_7 : decode cX6_goOn 7 = .ok (.getfield 16, 3) := by decide +kernel
theorem dX6_goOn_10 : decode cX6_goOn 10 = .ok (.iconst 0, 1) := by decide +kernel
theorem dX6_goOn_11 : decode cX6_goOn 11 = .ok (.iaload, 1) := by decide +kernel
theorem dX6_goOn_12 : decode cX6_goOn 12 = .ok (.isub, 1) := by decide +kernel
theorem dX6_goOn_13 : decode cX6_goOn 13 = .ok (.invokestatic 122, 3) := by decide +kernel
theorem dX6_goOn_16 : decode cX6_goOn 16 = .ok (.ireturn, 1) := by decide +kernel
set_option maxRecDepth 20000 in
theorem ggX6_refusedOn_X6_isChild : GoodIn wsX6_refusedOn wsX6_isChild := goodIn_r _ [6, 7, 8, 5, 9] (by decide +kernel) (by decide +kernel)
set_option maxRecDepth 20000 in
theorem gX6_refusedOn_X6_isChild : GoodIn wsX6_refusedOn (va_wsS RX6 75 yX6_isChild wsX6_isChild) := goodIn_app (goodIn_of _ (by decide +kernel)) ggX6_refusedOn_X6_isChild
set_option maxRecDepth 20000 in
theorem ggX6_refusedOn_X6_refused : GoodIn wsX6_refusedOn wsX6_refused := goodIn_r _ [13, 14, 43, 44, 45, 46, 47, 48, 49, 50, 51, 52, 53] (by decide +kernel) (by decide +kernel)
set_option maxRecDepth 20000 in
theorem gX6_refusedOn_X6_refused : GoodIn wsX6_refusedOn (wsV RX6 92 RX6 yX6_refused wsX6_refused) := goodIn_app (goodIn_of _ (by decide +kernel)) ggX6_refusedOn_X6_refused
set_option maxRecDepth 20000 in
theorem ggX6_refusedOn_X6_copyTerm : GoodIn wsX6_refusedOn wsX6_copyTerm := goodIn_r _ [17] (by decide +kernel) (by decide +kernel)
set_option maxRecDepth 20000 in
theorem gX6_refusedOn_X6_copyTerm : GoodIn wsX6_refusedOn (va_wsS RX6 144 yX6_copyTerm wsX6_copyTerm) := goodIn_app (goodIn_of _ (by decide +kernel)) ggX6_refusedOn_X6_copyTerm
set_option maxRecDepth 20000 in
theorem ggX6_refusedOn_X6_goOn : GoodIn wsX6_refusedOn wsX6_goOn := goodIn_r _ [21, 2, 22, 23, 5, 24, 25, 26, 27, 28, 29, 30, 31, 32, 33, 34, 35, 36, 37, 38, 39, 7, 8, 9, 40, 41, 42, 43, 44, 45, 46, 47, 48, 49, 50, 51, 52, 53] (by decide +kernel) (by decide +kernel)
set_option maxRecDepth 20000 in
theorem gX6_refusedOn_X6_goOn : GoodIn wsX6_refusedOn (wsV RX6 182 RX6 yX6_goOn wsX6_goOn) := goodIn_app (goodIn_of _ (by decide +kernel)) ggX6_refusedOn_X6_goOn
set_option maxRecDepth 20000 in
theorem ggX6_refusedOn_X6_at : GoodIn wsX6_refusedOn wsX6_at := goodIn_r _ [33] (by decide +kernel) (by decide +kernel)
set_option maxRecDepth 20000 in
theorem gX6_refusedOn_X6_at : GoodIn wsX6_refusedOn (va_wsS RX6 45 yX6_at wsX6_at) := goodIn_app (goodIn_of _ (by decide +kernel)) ggX6_refusedOn_X6_at
theorem dX6_refusedOn_0 : decode cX6_refusedOn 0 = .ok (.aload_n 0, 1) := by decide +kernel
theorem dX6_refusedOn_1 : decode cX6_refusedOn 1 = .ok (.aload_n 0, 1) := by decide +kernel
theorem dX6_refusedOn_2 : decode cX6_refusedOn 2 = .ok (.getfield 13, 3) := by decide +kernel
theorem dX6_refusedOn_5 : decode cX6_refusedOn 5 = .ok (.iload_n 1, 1) := by decide +kernel
theorem dX6_refusedOn_6 : decode cX6_refusedOn 6 = .ok (.invokestatic 75, 3) := by decide +kernel
theorem dX6_refusedOn_9 : decode cX6_refusedOn 9 = .ok (.ifCond .eq 7, 3) := by decide +kernel
theorem dX6_refusedOn_12 : decode cX6_refusedOn 12 = .ok (.iconst 0, 1) := by decide +kernel
theorem dX6_refusedOn_13 : decode cX6_refusedOn 13 = .ok (.goto 4, 3) := by decide +kernel
theorem dX6_refusedOn_16 : decode cX6_refusedOn 16 = .ok (.iconst 1, 1) := by decide +kernel
theorem dX6_refusedOn_17 : decode cX6_refusedOn 17 = .ok (.invokevirtual 92, 3) := by decide +kernel
theorem dX6_refusedOn_20 : decode cX6_refusedOn 20 = .ok (.ifCond .eq 5, 3) := by decide +kernel
theorem dX6_refusedOn_23 : decode cX6_refusedOn 23 = .ok (.iconst 0, 1) := by decide +kernel
theorem dX6_refusedOn_24 : decode cX6_refusedOn 24 = .ok (.ireturn, 1) := by decide +kernel
theorem dX6_refusedOn_25 : decode cX6_refusedOn 25 = .ok (.aload_n 0, 1) := by decide +kernel
theorem dX6_refusedOn_26 : decode cX6_refusedOn 26 = .ok (.getfield 13, 3) := by decide +kernel
theorem dX6_refusedOn_29 : decode cX6_refusedOn 29 = .ok (.iconst 0, 1) := by decide +kernel
theorem dX6_refusedOn_30 : decode cX6_refusedOn 30 = .ok (.aload_n 0, 1) := by decide +kernel
theorem dX6_refusedOn_31 : decode cX6_refusedOn 31 = .ok (.getfield 16, 3) := by decide +kernel
theorem dX6_refusedOn_34 : decode cX6_refusedOn 34 = .ok (.iconst 0, 1) := by decide +kernel
theorem dX6_refusedOn_35 : decode cX6_refusedOn 35 = .ok (.invokestatic 144, 3) := by decide +kernel
theorem dX6_refusedOn_38 : decode cX6_refusedOn 38 = .ok (.aload_n 0, 1) := by decide +kernel
theorem dX6_refusedOn_39 : decode cX6_refusedOn 39 = .ok (.invokevirtual 182, 3) := by decide +kernel
theorem dX6_refusedOn_42 : decode cX6_refusedOn 42 = .ok (.pop, 1) := by decide +kernel
theorem dX6_refusedOn_43 : decode cX6_refusedOn 43 = .ok (.aload_n 0, 1) := by decide +kernel
theorem dX6_refusedOn_44 : decode cX6_refusedOn 44 = .ok (.getfield 13, 3) := by decide +kernel
theorem dX6_refusedOn_47 : decode cX6_refusedOn 47 = .ok (.iconst 0, 1) := by decide +kernel
theorem dX6_refusedOn_48 : decode cX6_refusedOn 48 = .ok (.iaload, 1) := by decide +kernel
theorem dX6_refusedOn_49 : decode cX6_refusedOn 49 = .ok (.istore_n 2, 1) := by decide +kernel
theorem dX6_refusedOn_50 : decode cX6_refusedOn 50 = .ok (.iload_n 2, 1) := by decide +kernel
theorem dX6_refusedOn_51 : decode cX6_refusedOn 51 = .ok (.bipush 40, 2) := by decide +kernel
theorem dX6_refusedOn_53 : decode cX6_refusedOn 53 = .ok (.if_icmp .ge 28, 3) := by decide +kernel
theorem dX6_refusedOn_56 : decode cX6_refusedOn 56 = .ok (.aload_n 0, 1) := by decide +kernel
theorem dX6_refusedOn_57 : decode cX6_refusedOn 57 = .ok (.getfield 16, 3) := by decide +kernel
theorem dX6_refusedOn_60 : decode cX6_refusedOn 60 = .ok (.bipush 115, 2) := by decide +kernel
theorem dX6_refusedOn_62 : decode cX6_refusedOn 62 = .ok (.iload_n 1, 1) := by decide +kernel
theorem dX6_refusedOn_63 : decode cX6_refusedOn 63 = .ok (.iload_n 2, 1) := by decide +kernel
theorem dX6_refusedOn_64 : decode cX6_refusedOn 64 = .ok (.invokestatic 45, 3) := by decide +kernel
theorem dX6_refusedOn_67 : decode cX6_refusedOn 67 = .ok (.iadd, 1) := by decide +kernel
theorem dX6_refusedOn_68 : decode cX6_refusedOn 68 = .ok (.iaload, 1) := by decide +kernel
theorem dX6_refusedOn_69 : decode cX6_refusedOn 69 = .ok (.iconst 4, 1) := by decide +kernel
theorem dX6_refusedOn_70 : decode cX6_refusedOn 70 = .ok (.if_icmp .ne 5, 3) := by decide +kernel
theorem dX6_refusedOn_73 : decode cX6_refusedOn 73 = .ok (.iload_n 2, 1) := by decide +kernel
theorem dX6_refusedOn_74 : decode cX6_refusedOn 74 = .ok (.ireturn, 1) := by decide +kernel
theorem dX6_refusedOn_75 : decode cX6_refusedOn 75 = .ok (.iinc 2 1, 3) := by decide +kernel
theorem dX6_refusedOn_78 : decode cX6_refusedOn 78 = .ok (.goto (-28), 3) := by decide +kernel
theorem dX6_refusedOn_81 : decode cX6_refusedOn 81 = .ok (.iconst (-1), 1) := by decide +kernel
theorem dX6_refusedOn_82 : decode cX6_refusedOn 82 = .ok (.ireturn, 1) := by decide +kernel
set_option maxRecDepth 20000 in
theorem ggX6_refusedOf_X6_count : GoodIn wsX6_refusedOf wsX6_count := goodIn_r _ [5, 6, 7, 4, 8] (by decide +kernel) (by decide +kernel)
set_option maxRecDepth 20000 in
theorem gX6_refusedOf_X6_count : GoodIn wsX6_refusedOf (va_wsS RX6 49 yX6_count wsX6_count) := goodIn_app (goodIn_of _ (by decide +kernel)) ggX6_refusedOf_X6_count
theorem dX6_refusedOf_0 : decode cX6_refusedOf 0 = .ok (.iconst 0, 1) := by decide +kernel
theorem dX6_refusedOf_1 : decode cX6_refusedOf 1 = .ok (.istore_n 2, 1) := by decide +kernel
theorem dX6_refusedOf_2 : decode cX6_refusedOf 2 = .ok (.iconst 0, 1) := by decide +kernel
theorem dX6_refusedOf_3 : decode cX6_refusedOf 3 = .ok (.istore_n 3, 1) := by decide +kernel
theorem dX6_refusedOf_4 : decode cX6_refusedOf 4 = .ok (.iload_n 3, 1) := by decide +kernel
theorem dX6_refusedOf_5 : decode cX6_refusedOf 5 = .ok (.aload_n 0, 1) := by decide +kernel
theorem dX6_refusedOf_6 : decode cX6_refusedOf 6 = .ok (.getfield 16, 3) := by decide +kernel
theorem dX6_refusedOf_9 : decode cX6_refusedOf 9 = .ok (.iconst 1, 1) := by decide +kernel
theorem dX6_refusedOf_10 : decode cX6_refusedOf 10 = .ok (.iaload, 1) := by decide +kernel
theorem dX6_refusedOf_11 : decode cX6_refusedOf 11 = .ok (.if_icmp .ge 39, 3) := by decide +kernel
theorem dX6_refusedOf_14 : decode cX6_refusedOf 14 = .ok (.iload_n 2, 1) := by decide +kernel
theorem dX6_refusedOf_15 : decode cX6_refusedOf 15 = .ok (.aload_n 0, 1) := by decide +kernel
theorem dX6_refusedOf_16 : decode cX6_refusedOf 16 = .ok (.getfield 16, 3) := by decide +kernel
theorem dX6_refusedOf_19 : decode cX6_refusedOf 19 = .ok (.bipush 45, 2) := by decide +kernel
theorem dX6_refusedOf_21 : decode cX6_refusedOf 21 = .ok (.iload_n 3, 1) := by decide +kernel
theorem dX6_refusedOf_22 : decode cX6_refusedOf 22 = .ok (.iadd, 1) := by decide +kernel
theorem dX6_refusedOf_23 : decode cX6_refusedOf 23 = .ok (.iaload, 1) := by decide +kernel
theorem dX6_refusedOf_24 : decode cX6_refusedOf 24 = .ok (.iload_n 1, 1) := by decide +kernel
theorem dX6_refusedOf_25 : decode cX6_refusedOf 25 = .ok (.if_icmp .ne 16, 3) := by decide +kernel
theorem dX6_refusedOf_28 : decode cX6_refusedOf 28 = .ok (.aload_n 0, 1) := by decide +kernel
theorem dX6_refusedOf_29 : decode cX6_refusedOf 29 = .ok (.getfield 16, 3) := by decide +kernel
theorem dX6_refusedOf_32 : decode cX6_refusedOf 32 = .ok (.iload_n 3, 1) := by decide +kernel
theorem dX6_refusedOf_33 : decode cX6_refusedOf 33 = .ok (.iconst (-1), 1) := by decide +kernel
theorem dX6_refusedOf_34 : decode cX6_refusedOf 34 = .ok (.iconst 4, 1) := by decide +kernel
theorem dX6_refusedOf_35 : decode cX6_refusedOf 35 = .ok (.invokestatic 49, 3) := by decide +kernel
theorem dX6_refusedOf_38 : decode cX6_refusedOf 38 = .ok (.goto 4, 3) := by decide +kernel
theorem dX6_refusedOf_41 : decode cX6_refusedOf 41 = .ok (.iconst 0, 1) := by decide +kernel
theorem dX6_refusedOf_42 : decode cX6_refusedOf 42 = .ok (.iadd, 1) := by decide +kernel
theorem dX6_refusedOf_43 : decode cX6_refusedOf 43 = .ok (.istore_n 2, 1) := by decide +kernel
theorem dX6_refusedOf_44 : decode cX6_refusedOf 44 = .ok (.iinc 3 1, 3) := by decide +kernel
theorem dX6_refusedOf_47 : decode cX6_refusedOf 47 = .ok (.goto (-43), 3) := by decide +kernel
theorem dX6_refusedOf_50 : decode cX6_refusedOf 50 = .ok (.iload_n 2, 1) := by decide +kernel
theorem dX6_refusedOf_51 : decode cX6_refusedOf 51 = .ok (.ireturn, 1) := by decide +kernel
set_option maxRecDepth 20000 in
theorem ggX6_needs_X6_isFamily : GoodIn wsX6_needs wsX6_isFamily := goodIn_r _ [6, 7, 8, 9, 5, 10] (by decide +kernel) (by decide +kernel)
set_option maxRecDepth 20000 in
theorem gX6_needs_X6_isFamily : GoodIn wsX6_needs (va_wsS RX6 162 yX6_isFamily wsX6_isFamily) := goodIn_app (goodIn_of _ (by decide +kernel)) ggX6_needs_X6_isFamily
set_option maxRecDepth 20000 in
theorem ggX6_needs_X6_refused : GoodIn wsX6_needs wsX6_refused := goodIn_r _ [14, 15, 48, 49, 50, 51, 52, 53, 54, 55, 56, 57, 58] (by decide +kernel) (by decide +kernel)
set_option maxRecDepth 20000 in
theorem gX6_needs_X6_refused : GoodIn wsX6_needs (wsV RX6 92 RX6 yX6_refused wsX6_refused) := goodIn_app (goodIn_of _ (by decide +kernel)) ggX6_needs_X6_refused
set_option maxRecDepth 20000 in
theorem ggX6_needs_X6_copyTerm : GoodIn wsX6_needs wsX6_copyTerm := goodIn_r _ [18] (by decide +kernel) (by decide +kernel)
set_option maxRecDepth 20000 in
theorem gX6_needs_X6_copyTerm : GoodIn wsX6_needs (va_wsS RX6 144 yX6_copyTerm wsX6_copyTerm) := goodIn_app (goodIn_of _ (by decide +kernel)) ggX6_needs_X6_copyTerm
set_option maxRecDepth 20000 in
theorem ggX6_needs_X6_refusedOf : GoodIn wsX6_needs wsX6_refusedOf := goodIn_r _ [22, 2, 23, 24, 5, 25, 26, 27, 28, 48, 49, 50, 51, 52, 53, 54, 55, 56, 57, 58] (by decide +kernel) (by decide +kernel)
set_option maxRecDepth 20000 in
theorem gX6_needs_X6_refusedOf : GoodIn wsX6_needs (wsV RX6 186 RX6 yX6_refusedOf wsX6_refusedOf) := goodIn_app (goodIn_of _ (by decide +kernel)) ggX6_needs_X6_refusedOf
set_option maxRecDepth 20000 in
theorem ggX6_needs_X6_goOn : GoodIn wsX6_needs wsX6_goOn := goodIn_r _ [32, 2, 33, 34, 5, 35, 36, 37, 38, 23, 24, 25, 26, 27, 28, 39, 40, 41, 42, 43, 44, 8, 9, 10, 45, 46, 47, 48, 49, 50, 51, 52, 53, 54, 55, 56, 57, 58] (by decide +kernel) (by decide +kernel)
set_option maxRecDepth 20000 in
theorem gX6_needs_X6_goOn : GoodIn wsX6_needs (wsV RX6 182 RX6 yX6_goOn wsX6_goOn) := goodIn_app (goodIn_of _ (by decide +kernel)) ggX6_needs_X6_goOn
theorem dX6_needs_0 : decode cX6_needs 0 = .ok (.aload_n 0, 1) := by decide +kernel
theorem dX6_needs_1 : decode cX6_needs 1 = .ok (.iload_n 1, 1) := by decide +kernel
theorem dX6_needs_2 : decode cX6_needs 2 = .ok (.invokestatic 162, 3) := by decide +kernel
theorem dX6_needs_5 : decode cX6_needs 5 = .ok (.ifCond .eq 7, 3) := by decide +kernel
theorem dX6_needs_8 : decode cX6_needs 8 = .ok (.iconst 0, 1) := by decide +kernel
theorem dX6_needs_9 : decode cX6_needs 9 = .ok (.goto 4, 3) := by decide +kernel
theorem dX6_needs_12 : decode cX6_needs 12 = .ok (.iconst 1, 1) := by decide +kernel
theorem dX6_needs_13 : decode cX6_needs 13 = .ok (.invokevirtual 92, 3) := by decide +kernel
theorem dX6_needs_16 : decode cX6_needs 16 = .ok (.ifCond .eq 5, 3) := by decide +kernel
theorem dX6_needs_19 : decode cX6_needs 19 = .ok (.iconst 0, 1) := by decide +kernel
theorem dX6_needs_20 : decode cX6_needs 20 = .ok (.ireturn, 1) := by decide +kernel
theorem dX6_needs_21 : decode cX6_needs 21 = .ok (.iconst 0, 1) := by decide +kernel
theorem dX6_needs_22 : decode cX6_needs 22 = .ok (.istore_n 2, 1) := by decide +kernel
theorem dX6_needs_23 : decode cX6_needs 23 = .ok (.iload_n 2, 1) := by decide +kernel
theorem dX6_needs_24 : decode cX6_needs 24 = .ok (.aload_n 0, 1) := by decide +kernel
theorem dX6_needs_25 : decode cX6_needs 25 = .ok (.getfield 13, 3) := by decide +kernel
theorem dX6_needs_28 : decode cX6_needs 28 = .ok (.iconst 1, 1) := by decide +kernel
theorem dX6_needs_29 : decode cX6_needs 29 = .ok (.iaload, 1) := by decide +kernel
theorem dX6_needs_30 : decode cX6_needs 30 = .ok (.if_icmp .ge 22, 3) := by decide +kernel
theorem dX6_needs_33 : decode cX6_needs 33 = .ok (.aload_n 0, 1) := by decide +kernel
theorem dX6_needs_34 : decode cX6_needs 34 = .ok (.getfield 13, 3) := by decide +kernel
theorem dX6_needs_37 : decode cX6_needs 37 = .ok (.bipush 45, 2) := by decide +kernel
theorem dX6_needs_39 : decode cX6_needs 39 = .ok (.iload_n 2, 1) := by decide +kernel
theorem dX6_needs_40 : decode cX6_needs 40 = .ok (.iadd, 1) := by decide +kernel
theorem dX6_needs_41 : decode cX6_needs 41 = .ok (.iaload, 1) := by decide +kernel
theorem dX6_needs_42 : decode cX6_needs 42 = .ok (.iload_n 1, 1) := by decide +kernel
theorem dX6_needs_43 : decode cX6_needs 43 = .ok (.if_icmp .eq 9, 3) := by decide +kernel
theorem dX6_needs_46 : decode cX6_needs 46 = .ok (.iinc 2 1, 3) := by decide +kernel
theorem dX6_needs_49 : decode cX6_needs 49 = .ok (.goto (-26), 3) := by decide +kernel
theorem dX6_needs_52 : decode cX6_needs 52 = .ok (.iload_n 2, 1) := by decide +kernel
theorem dX6_needs_53 : decode cX6_needs 53 = .ok (.aload_n 0, 1) := by decide +kernel
theorem dX6_needs_54 : decode cX6_needs 54 = .ok (.getfield 13, 3) := by decide +kernel
theorem dX6_needs_57 : decode cX6_needs 57 = .ok (.iconst 1, 1) := by decide +kernel
theorem dX6_needs_58 : decode cX6_needs 58 = .ok (.iaload, 1) := by decide +kernel
theorem dX6_needs_59 : decode cX6_needs 59 = .ok (.if_icmp .ne 5, 3) := by decide +kernel
theorem dX6_needs_62 : decode cX6_needs 62 = .ok (.iconst (-1), 1) := by decide +kernel
theorem dX6_needs_63 : decode cX6_needs 63 = .ok (.ireturn, 1) := by decide +kernel
theorem dX6_needs_64 : decode cX6_needs 64 = .ok (.aload_n 0, 1) := by decide +kernel
theorem dX6_needs_65 : decode cX6_needs 65 = .ok (.getfield 13, 3) := by decide +kernel
theorem dX6_needs_68 : decode cX6_needs 68 = .ok (.iconst 0, 1) := by decide +kernel
theorem dX6_needs_69 : decode cX6_needs 69 = .ok (.aload_n 0, 1) := by decide +kernel
theorem dX6_needs_70 : decode cX6_needs 70 = .ok (.getfield 16, 3) := by decide +kernel
theorem dX6_needs_73 : decode cX6_needs 73 = .ok (.iconst 0, 1) := by decide +kernel
theorem dX6_needs_74 : decode cX6_needs 74 = .ok (.invokestatic 144, 3) := by decide +kernel
theorem dX6_needs_77 : decode cX6_needs 77 = .ok (.aload_n 0, 1) := by decide +kernel
theorem dX6_needs_78 : decode cX6_needs 78 = .ok (.iload_n 1, 1) := by decide +kernel
theorem dX6_needs_79 : decode cX6_needs 79 = .ok (.invokevirtual 186, 3) := by decide +kernel
theorem dX6_needs_82 : decode cX6_needs 82 = .ok (.istore_n 3, 1) := by decide +kernel
theorem dX6_needs_83 : decode cX6_needs 83 = .ok (.iconst 0, 1) := by decide +kernel
theorem dX6_needs_84 : decode cX6_needs 84 = .ok (.istore 4, 2) := by decide +kernel
theorem dX6_needs_86 : decode cX6_needs 86 = .ok (.iload 4, 2) := by decide +kernel
theorem dX6_needs_88 : decode cX6_needs 88 = .ok (.sipush 20000, 3) := by decide +kernel
theorem dX6_needs_91 : decode cX6_needs 91 = .ok (.if_icmp .gt 53, 3) := by decide +kernel
theorem dX6_needs_94 : decode cX6_needs 94 = .ok (.aload_n 0, 1) := by decide +kernel
theorem dX6_needs_95 : decode cX6_needs 95 = .ok (.getfield 13, 3) := by decide +kernel
theorem dX6_needs_98 : decode cX6_needs 98 = .ok (.iconst 0, 1) := by decide +kernel
theorem dX6_needs_99 : decode cX6_needs 99 = .ok (.aload_n 0, 1) := by decide +kernel
theorem dX6_needs_100 : decode cX6_needs 100 = .ok (.getfield 16, 3) := by decide +kernel
theorem dX6_needs_103 : decode cX6_needs 103 = .ok (.iconst 0, 1) := by decide +kernel
theorem dX6_needs_104 : decode cX6_needs 104 = .ok (.invokestatic 144, 3) := by decide +kernel
theorem dX6_needs_107 : decode cX6_needs 107 = .ok (.aload_n 0, 1) := by decide +kernel
theorem dX6_needs_108 : decode cX6_needs 108 = .ok (.getfield 16, 3) := by decide +kernel
theorem dX6_needs_111 : decode cX6_needs 111 = .ok (.bipush 69, 2) := by decide +kernel
theorem dX6_needs_113 : decode cX6_needs 113 = .ok (.iload_n 2, 1) := by decide +kernel
theorem dX6_needs_114 : decode cX6_needs 114 = .ok (.iadd, 1) := by decide +kernel
theorem dX6_needs_115 : decode cX6_needs 115 = .ok (.dup2, 1) := by decide +kernel
theorem dX6_needs_116 : decode cX6_needs 116 = .ok (.iaload, 1) := by decide +kernel
theorem dX6_needs_117 : decode cX6_needs 117 = .ok (.iload 4, 2) := by decide +kernel
theorem dX6_needs_119 : decode cX6_needs 119 = .ok (.iadd, 1) := by decide +kernel
theorem dX6_needs_120 : decode cX6_needs 120 = .ok (.iastore, 1) := by decide +kernel
theorem dX6_needs_121 : decode cX6_needs 121 = .ok (.aload_n 0, 1) := by decide +kernel
theorem dX6_needs_122 : decode cX6_needs 122 = .ok (.invokevirtual 182, 3) := by decide +kernel
theorem dX6_needs_125 : decode cX6_needs 125 = .ok (.pop, 1) := by decide +kernel
theorem dX6_needs_126 : decode cX6_needs 126 = .ok (.aload_n 0, 1) := by decide +kernel
theorem dX6_needs_127 : decode cX6_needs 127 = .ok (.iload_n 1, 1) := by decide +kernel
theorem dX6_needs_128 : decode cX6_needs 128 = .ok (.invokevirtual 186, 3) := by decide +kernel
theorem dX6_needs_131 : decode cX6_needs 131 = .ok (.iload_n 3, 1) := by decide +kernel
theorem dX6_needs_132 : decode cX6_needs 132 = .ok (.if_icmp .ne 6, 3) := by decide +kernel
theorem dX6_needs_135 : decode cX6_needs 135 = .ok (.iload 4, 2) := by decide +kernel
theorem dX6_needs_137 : decode cX6_needs 137 = .ok (.ireturn, 1) := by decide +kernel
theorem dX6_needs_138 : decode cX6_needs 138 = .ok (.iinc 4 100, 3) := by decide +kernel
theorem dX6_needs_141 : decode cX6_needs 141 = .ok (.goto (-55), 3) := by decide +kernel
theorem dX6_needs_144 : decode cX6_needs 144 = .ok (.iconst (-1), 1) := by decide +kernel
theorem dX6_needs_145 : decode cX6_needs 145 = .ok (.ireturn, 1) := by decide +kernel
set_option maxRecDepth 20000 in
theorem ggX6_ifEntitled_X6_whyNotEntitle : GoodIn wsX6_ifEntitled wsX6_whyNotEntitle := goodIn_r _ [6, 7, 8, 9, 5, 10, 11, 12, 13, 14, 15, 16] (by decide +kernel) (by decide +kernel)
set_option maxRecDepth 20000 in
theorem gX6_ifEntitled_X6_whyNotEntitle : GoodIn wsX6_ifEntitled (va_wsS RX6 113 yX6_whyNotEntitle wsX6_whyNotEntitle) := goodIn_app (goodIn_of _ (by decide +kernel)) ggX6_ifEntitled_X6_whyNotEntitle
set_option maxRecDepth 20000 in
theorem ggX6_ifEntitled_X6_refused : GoodIn wsX6_ifEntitled wsX6_refused := goodIn_r _ [20, 21, 37, 38, 39, 40, 41, 42, 43, 44, 45, 46, 47] (by decide +kernel) (by decide +kernel)
set_option maxRecDepth 20000 in
theorem gX6_ifEntitled_X6_refused : GoodIn wsX6_ifEntitled (wsV RX6 92 RX6 yX6_refused wsX6_refused) := goodIn_app (goodIn_of _ (by decide +kernel)) ggX6_ifEntitled_X6_refused
set_option maxRecDepth 20000 in
theorem ggX6_ifEntitled_X6_copyTerm : GoodIn wsX6_ifEntitled wsX6_copyTerm := goodIn_r _ [24] (by decide +kernel) (by decide +kernel)
set_option maxRecDepth 20000 in
theorem gX6_ifEntitled_X6_copyTerm : GoodIn wsX6_ifEntitled (va_wsS RX6 144 yX6_copyTerm wsX6_copyTerm) := goodIn_app (goodIn_of _ (by decide +kernel)) ggX6_ifEntitled_X6_copyTerm
set_option maxRecDepth 20000 in
theorem ggX6_ifEntitled_X6_entitleOn : GoodIn wsX6_ifEntitled wsX6_entitleOn := goodIn_r _ [27, 28, 29, 5, 30, 31, 32, 33, 34, 35, 36, 11, 12, 13] (by decide +kernel) (by decide +kernel)
set_option maxRecDepth 20000 in
theorem gX6_ifEntitled_X6_entitleOn : GoodIn wsX6_ifEntitled (va_wsS RX6 116 yX6_entitleOn wsX6_entitleOn) := goodIn_app (goodIn_of _ (by decide +kernel)) ggX6_ifEntitled_X6_entitleOn
theorem dX6_ifEntitled_0 : decode cX6_ifEntitled 0 = .ok (.aload_n 0, 1) := by decide +kernel
theorem dX6_ifEntitled_1 : decode cX6_ifEntitled 1 = .ok (.aload_n 0, 1) := by decide +kernel
theorem dX6_ifEntitled_2 : decode cX6_ifEntitled 2 = .ok (.getfield 13, 3) := by decide +kernel
theorem dX6_ifEntitled_5 : decode cX6_ifEntitled 5 = .ok (.iload_n 1, 1) := by decide +kernel
theorem dX6_ifEntitled_6 : decode cX6_ifEntitled 6 = .ok (.iload_n 2, 1) := by decide +kernel
theorem dX6_ifEntitled_7 : decode cX6_ifEntitled 7 = .ok (.iload_n 3, 1) := by decide +kernel
theorem dX6_ifEntitled_8 : decode cX6_ifEntitled 8 = .ok (.invokestatic 113, 3) := by decide +kernel
theorem dX6_ifEntitled_11 : decode cX6_ifEntitled 11 = .ok (.invokevirtual 92, 3) := by decide +kernel
theorem dX6_ifEntitled_14 : decode cX6_ifEntitled 14 = .ok (.ifCond .eq 5, 3) := by decide +kernel
theorem dX6_ifEntitled_17 : decode cX6_ifEntitled 17 = .ok (.iconst 0, 1) := by decide +kernel
theorem dX6_ifEntitled_18 : decode cX6_ifEntitled 18 = .ok (.ireturn, 1) := by decide +kernel
theorem dX6_ifEntitled_19 : decode cX6_ifEntitled 19 = .ok (.aload_n 0, 1) := by decide +kernel
theorem dX6_ifEntitled_20 : decode cX6_ifEntitled 20 = .ok (.getfield 13, 3) := by decide +kernel
theorem dX6_ifEntitled_23 : decode cX6_ifEntitled 23 = .ok (.iconst 0, 1) := by decide +kernel
theorem dX6_ifEntitled_24 : decode cX6_ifEntitled 24 = .ok (.aload_n 0, 1) := by decide +kernel
theorem dX6_ifEntitled_25 : decode cX6_ifEntitled 25 = .ok (.getfield 16, 3) := by decide +kernel
theorem dX6_ifEntitled_28 : decode cX6_ifEntitled 28 = .ok (.iconst 0, 1) := by decide +kernel
theorem dX6_ifEntitled_29 : decode cX6_ifEntitled 29 = .ok (.invokestatic 144, 3) := by decide +kernel
theorem dX6_ifEntitled_32 : decode cX6_ifEntitled 32 = .ok (.aload_n 0, 1) := by decide +kernel
theorem dX6_ifEntitled_33 : decode cX6_ifEntitled 33 = .ok (.getfield 16, 3) := by decide +kernel
theorem dX6_ifEntitled_36 : decode cX6_ifEntitled 36 = .ok (.iload_n 1, 1) := by decide +kernel
theorem dX6_ifEntitled_37 : decode cX6_ifEntitled 37 = .ok (.iload_n 2, 1) := by decide +kernel
theorem dX6_ifEntitled_38 : decode cX6_ifEntitled 38 = .ok (.iload_n 3, 1) := by decide +kernel
theorem dX6_ifEntitled_39 : decode cX6_ifEntitled 39 = .ok (.invokestatic 116, 3) := by decide +kernel
theorem dX6_ifEntitled_42 : decode cX6_ifEntitled 42 = .ok (.ireturn, 1) := by decide +kernel
set_option maxRecDepth 20000 in
theorem ggX6_ifPrice_X6_in : GoodIn wsX6_ifPrice wsX6_in := goodIn_r _ [7] (by decide +kernel) (by decide +kernel)
set_option maxRecDepth 20000 in
theorem gX6_ifPrice_X6_in : GoodIn wsX6_ifPrice (va_wsS RX6 37 yX6_in wsX6_in) := goodIn_app (goodIn_of _ (by decide +kernel)) ggX6_ifPrice_X6_in
set_option maxRecDepth 20000 in
theorem ggX6_ifPrice_X6_refused : GoodIn wsX6_ifPrice wsX6_refused := goodIn_r _ [11, 12, 41, 42, 43, 44, 45, 46, 47, 48, 49, 50, 51] (by decide +kernel) (by decide +kernel)
set_option maxRecDepth 20000 in
theorem gX6_ifPrice_X6_refused : GoodIn wsX6_ifPrice (wsV RX6 92 RX6 yX6_refused wsX6_refused) := goodIn_app (goodIn_of _ (by decide +kernel)) ggX6_ifPrice_X6_refused
set_option maxRecDepth 20000 in
theorem ggX6_ifPrice_X6_copyTerm : GoodIn wsX6_ifPrice wsX6_copyTerm := goodIn_r _ [15] (by decide +kernel) (by decide +kernel)
set_option maxRecDepth 20000 in
theorem gX6_ifPrice_X6_copyTerm : GoodIn wsX6_ifPrice (va_wsS RX6 144 yX6_copyTerm wsX6_copyTerm) := goodIn_app (goodIn_of _ (by decide +kernel)) ggX6_ifPrice_X6_copyTerm
set_option maxRecDepth 20000 in
theorem ggX6_ifPrice_X6_goOn : GoodIn wsX6_ifPrice wsX6_goOn := goodIn_r _ [19, 3, 20, 21, 6, 22, 23, 24, 25, 26, 27, 28, 29, 30, 31, 32, 33, 34, 35, 36, 37, 4, 5, 7, 38, 39, 40, 41, 42, 43, 44, 45, 46, 47, 48, 49, 50, 51] (by decide +kernel) (by decide +kernel)
set_option maxRecDepth 20000 in
theorem gX6_ifPrice_X6_goOn : GoodIn wsX6_ifPrice (wsV RX6 182 RX6 yX6_goOn wsX6_goOn) := goodIn_app (goodIn_of _ (by decide +kernel)) ggX6_ifPrice_X6_goOn
theorem dX6_ifPrice_0 : decode cX6_ifPrice 0 = .ok (.aload_n 0, 1) := by decide +kernel
theorem dX6_ifPrice_1 : decode cX6_ifPrice 1 = .ok (.iload_n 1, 1) := by decide +kernel
theorem dX6_ifPrice_2 : decode cX6_ifPrice 2 = .ok (.i2l, 1) := by decide +kernel
theorem dX6_ifPrice_3 : decode cX6_ifPrice 3 = .ok (.lconst 1, 1) := by decide +kernel
theorem dX6_ifPrice_4 : decode cX6_ifPrice 4 = .ok (.ldc2_w 180, 3) := by decide +kernel
theorem dX6_ifPrice_7 : decode cX6_ifPrice 7 = .ok (.invokestatic 37, 3) := by decide +kernel
theorem dX6_ifPrice_10 : decode cX6_ifPrice 10 = .ok (.ifCond .eq 7, 3) := by decide +kernel
theorem dX6_ifPrice_13 : decode cX6_ifPrice 13 = .ok (.iconst 0, 1) := by decide +kernel
theorem dX6_ifPrice_14 : decode cX6_ifPrice 14 = .ok (.goto 4, 3) := by decide +kernel
theorem dX6_ifPrice_17 : decode cX6_ifPrice 17 = .ok (.iconst 1, 1) := by decide +kernel
theorem dX6_ifPrice_18 : decode cX6_ifPrice 18 = .ok (.invokevirtual 92, 3) := by decide +kernel
theorem dX6_ifPrice_21 : decode cX6_ifPrice 21 = .ok (.ifCond .eq 5, 3) := by decide +kernel
theorem dX6_ifPrice_24 : decode cX6_ifPrice 24 = .ok (.iconst 0, 1) := by decide +kernel
theorem dX6_ifPrice_25 : decode cX6_ifPrice 25 = .ok (.ireturn, 1) := by decide +kernel
theorem dX6_ifPrice_26 : decode cX6_ifPrice 26 = .ok (.aload_n 0, 1) := by decide +kernel
theorem dX6_ifPrice_27 : decode cX6_ifPrice 27 = .ok (.getfield 13, 3) := by decide +kernel
theorem dX6_ifPrice_30 : decode cX6_ifPrice 30 = .ok (.iconst 0, 1) := by decide +kernel
theorem dX6_ifPrice_31 : decode cX6_ifPrice 31 = .ok (.aload_n 0, 1) := by decide +kernel
theorem dX6_ifPrice_32 : decode cX6_ifPrice 32 = .ok (.getfield 16, 3) := by decide +kernel
theorem dX6_ifPrice_35 : decode cX6_ifPrice 35 = .ok (.iconst 0, 1) := by decide +kernel
theorem dX6_ifPrice_36 : decode cX6_ifPrice 36 = .ok (.invokestatic 144, 3) := by decide +kernel
theorem dX6_ifPrice_39 : decode cX6_ifPrice 39 = .ok (.aload_n 0, 1) := by decide +kernel
theorem dX6_ifPrice_40 : decode cX6_ifPrice 40 = .ok (.getfield 16, 3) := by decide +kernel
theorem dX6_ifPrice_43 : decode cX6_ifPrice 43 = .ok (.iconst 2, 1) := by decide +kernel
theorem dX6_ifPrice_44 : decode cX6_ifPrice 44 = .ok (.iload_n 1, 1) := by decide +kernel
theorem dX6_ifPrice_45 : decode cX6_ifPrice 45 = .ok (.iastore, 1) := by decide +kernel
theorem dX6_ifPrice_46 : decode cX6_ifPrice 46 = .ok (.aload_n 0, 1) := by decide +kernel
theorem dX6_ifPrice_47 : decode cX6_ifPrice 47 = .ok (.invokevirtual 182, 3) := by decide +kernel
theorem dX6_ifPrice_50 : decode cX6_ifPrice 50 = .ok (.ireturn, 1) := by decide +kernel
set_option maxRecDepth 20000 in
theorem ggX6_bestEntitled_X6_copyTerm : GoodIn wsX6_bestEntitled wsX6_copyTerm := goodIn_r _ [7] (by decide +kernel) (by decide +kernel)
set_option maxRecDepth 20000 in
theorem gX6_bestEntitled_X6_copyTerm : GoodIn wsX6_bestEntitled (va_wsS RX6 144 yX6_copyTerm wsX6_copyTerm) := goodIn_app (goodIn_of _ (by decide +kernel)) ggX6_bestEntitled_X6_copyTerm
set_option maxRecDepth 20000 in
theorem ggX6_bestEntitled_X6_entitleOn : GoodIn wsX6_bestEntitled wsX6_entitleOn := goodIn_r _ [10, 11, 12, 6, 13, 14, 15, 16, 17, 18, 19, 20, 21, 22] (by decide +kernel) (by decide +kernel)
set_option maxRecDepth 20000 in
theorem gX6_bestEntitled_X6_entitleOn : GoodIn wsX6_bestEntitled (va_wsS RX6 116 yX6_entitleOn wsX6_entitleOn) := goodIn_app (goodIn_of _ (by decide +kernel)) ggX6_bestEntitled_X6_entitleOn
set_option maxRecDepth 20000 in
theorem ggX6_bestEntitled_X6_goOn : GoodIn wsX6_bestEntitled wsX6_goOn := goodIn_r _ [26, 3, 27, 28, 6, 29, 30, 31, 32, 33, 34, 35, 14, 15, 16, 36, 37, 38, 17, 18, 19, 20, 21, 22, 39, 40, 41, 42, 43, 44, 45, 46, 47, 48, 49, 50, 51, 52] (by decide +kernel) (by decide +kernel)
set_option maxRecDepth 20000 in
theorem gX6_bestEntitled_X6_goOn : GoodIn wsX6_bestEntitled (wsV RX6 182 RX6 yX6_goOn wsX6_goOn) := goodIn_app (goodIn_of _ (by decide +kernel)) ggX6_bestEntitled_X6_goOn
set_option maxRecDepth 20000 in
theorem ggX6_bestEntitled_X6_count : GoodIn wsX6_bestEntitled wsX6_count := goodIn_r _ [35, 14, 15, 6, 16] (by decide +kernel) (by decide +kernel)
set_option maxRecDepth 20000 in
theorem gX6_bestEntitled_X6_count : GoodIn wsX6_bestEntitled (va_wsS RX6 49 yX6_count wsX6_count) := goodIn_app (goodIn_of _ (by decide +kernel)) ggX6_bestEntitled_X6_count
theorem dX6_bestEntitled_0 : decode cX6_bestEntitled 0 = .ok (.aload_n 0, 1) := by decide +kernel
theorem dX6_bestEntitled_1 : decode cX6_bestEntitled 1 = .ok (.iconst 0, 1) := by decide +kernel
theorem dX6_bestEntitled_2 : decode cX6_bestEntitled 2 = .ok (.putfield 33, 3) := by decide +kernel
theorem dX6_bestEntitled_5 : decode cX6_bestEntitled 5 = .ok (.iconst (-1), 1) := by decide +kernel
theorem dX6_bestEntitled_6 : decode cX6_bestEntitled 6 = .ok (.istore_n 1, 1) := by decide +kernel
theorem dX6_bestEntitled_7 : decode cX6_bestEntitled 7 = .ok (.iconst 0, 1) := by decide +kernel
theorem dX6_bestEntitled_8 : decode cX6_bestEntitled 8 = .ok (.istore_n 2, 1) := by decide +kernel
theorem dX6_bestEntitled_9 : decode cX6_bestEntitled 9 = .ok (.iconst 0, 1) := by decide +kernel
theorem dX6_bestEntitled_10 : decode cX6_bestEntitled 10 = .ok (.istore_n 3, 1) := by decide +kernel
theorem dX6_bestEntitled_11 : decode cX6_bestEntitled 11 = .ok (.iload_n 3, 1) := by decide +kernel
theorem dX6_bestEntitled_12 : decode cX6_bestEntitled 12 = .ok (.aload_n 0, 1) := by decide +kernel
theorem dX6_bestEntitled_13 : decode cX6_bestEntitled 13 = .ok (.getfield 13, 3) := by decide +kernel
theorem dX6_bestEntitled_16 : decode cX6_bestEntitled 16 = .ok (.iconst 1, 1) := by decide +kernel
theorem dX6_bestEntitled_17 : decode cX6_bestEntitled 17 = .ok (.iaload, 1) := by decide +kernel
theorem dX6_bestEntitled_18 : decode cX6_bestEntitled 18 = .ok (.if_icmp .ge 92, 3) := by decide +kernel
theorem dX6_bestEntitled_21 : decode cX6_bestEntitled 21 = .ok (.aload_n 0, 1) := by decide +kernel
theorem dX6_bestEntitled_22 : decode cX6_bestEntitled 22 = .ok (.getfield 13, 3) := by decide +kernel
theorem dX6_bestEntitled_25 : decode cX6_bestEntitled 25 = .ok (.iconst 0, 1) := by decide +kernel
theorem dX6_bestEntitled_26 : decode cX6_bestEntitled 26 = .ok (.aload_n 0, 1) := by decide +kernel
theorem dX6_bestEntitled_27 : decode cX6_bestEntitled 27 = .ok (.getfield 16, 3) := by decide +kernel
theorem dX6_bestEntitled_30 : decode cX6_bestEntitled 30 = .ok (.iconst 0, 1) := by decide +kernel
theorem dX6_bestEntitled_31 : decode cX6_bestEntitled 31 = .ok (.invokestatic 144, 3) := by decide +kernel
theorem dX6_bestEntitled_34 : decode cX6_bestEntitled 34 = .ok (.aload_n 0, 1) := by decide +kernel
theorem dX6_bestEntitled_35 : decode cX6_bestEntitled 35 = .ok (.getfield 16, 3) := by decide +kernel
theorem dX6_bestEntitled_38 : decode cX6_bestEntitled 38 = .ok (.iload_n 3, 1) := by decide +kernel
theorem dX6_bestEntitled_39 : decode cX6_bestEntitled 39 = .ok (.iconst 0, 1) := by decide +kernel
theorem dX6_bestEntitled_40 : decode cX6_bestEntitled 40 = .ok (.bipush 39, 2) := by decide +kernel
theorem dX6_bestEntitled_42 : decode cX6_bestEntitled 42 = .ok (.invokestatic 116, 3) := by decide +kernel
theorem dX6_bestEntitled_45 : decode cX6_bestEntitled 45 = .ok (.pop, 1) := by decide +kernel
theorem dX6_bestEntitled_46 : decode cX6_bestEntitled 46 = .ok (.aload_n 0, 1) := by decide +kernel
theorem dX6_bestEntitled_47 : decode cX6_bestEntitled 47 = .ok (.invokevirtual 182, 3) := by decide +kernel
theorem dX6_bestEntitled_50 : decode cX6_bestEntitled 50 = .ok (.pop, 1) := by decide +kernel
theorem dX6_bestEntitled_51 : decode cX6_bestEntitled 51 = .ok (.aload_n 0, 1) := by decide +kernel
theorem dX6_bestEntitled_52 : decode cX6_bestEntitled 52 = .ok (.getfield 16, 3) := by decide +kernel
theorem dX6_bestEntitled_55 : decode cX6_bestEntitled 55 = .ok (.iconst (-1), 1) := by decide +kernel
theorem dX6_bestEntitled_56 : decode cX6_bestEntitled 56 = .ok (.iconst (-1), 1) := by decide +kernel
theorem dX6_bestEntitled_57 : decode cX6_bestEntitled 57 = .ok (.iconst 4, 1) := by decide +kernel
theorem dX6_bestEntitled_58 : decode cX6_bestEntitled 58 = .ok (.invokestatic 49, 3) := by decide +kernel
theorem dX6_bestEntitled_61 : decode cX6_bestEntitled 61 = .ok (.istore 4, 2) := by decide +kernel
theorem dX6_bestEntitled_63 : decode cX6_bestEntitled 63 = .ok (.iload_n 1, 1) := by decide +kernel
theorem dX6_bestEntitled_64 : decode cX6_bestEntitled 64 = .ok (.iconst (-1), 1) := by decide +kernel
theorem dX6_bestEntitled_65 : decode cX6_bestEntitled 65 = .ok (.if_icmp .eq 9, 3) := by decide +kernel
theorem dX6_bestEntitled_68 : decode cX6_bestEntitled 68 = .ok (.iload 4, 2) := by decide +kernel
theorem dX6_bestEntitled_70 : decode cX6_bestEntitled 70 = .ok (.iload_n 2, 1) := by decide +kernel
theorem dX6_bestEntitled_71 : decode cX6_bestEntitled 71 = .ok (.if_icmp .ge 7, 3) := by decide +kernel
theorem dX6_bestEntitled_74 : decode cX6_bestEntitled 74 = .ok (.iconst 1, 1) := by decide +kernel
theorem dX6_bestEntitled_75 : decode cX6_bestEntitled 75 = .ok (.goto 4, 3) := by decide +kernel
theorem dX6_bestEntitled_78 : decode cX6_bestEntitled 78 = .ok (.iconst 0, 1) := by decide +kernel
theorem dX6_bestEntitled_79 : decode cX6_bestEntitled 79 = .ok (.istore 5, 2) := by decide +kernel
theorem dX6_bestEntitled_81 : decode cX6_bestEntitled 81 = .ok (.iload 5, 2) := by decide +kernel
theorem dX6_bestEntitled_83 : decode cX6_bestEntitled 83 = .ok (.ifCond .eq 7, 3) := by decide +kernel
theorem dX6_bestEntitled_86 : decode cX6_bestEntitled 86 = .ok (.iload_n 3, 1) := by decide +kernel
theorem dX6_bestEntitled_87 : decode cX6_bestEntitled 87 = .ok (.goto 4, 3) := by decide +kernel
theorem dX6_bestEntitled_90 : decode cX6_bestEntitled 90 = .ok (.iload_n 1, 1) := by decide +kernel
theorem dX6_bestEntitled_91 : decode cX6_bestEntitled 91 = .ok (.istore_n 1, 1) := by decide +kernel
theorem dX6_bestEntitled_92 : decode cX6_bestEntitled 92 = .ok (.iload 5, 2) := by decide +kernel
theorem dX6_bestEntitled_94 : decode cX6_bestEntitled 94 = .ok (.ifCond .eq 8, 3) := by decide +kernel
theorem dX6_bestEntitled_97 : decode cX6_bestEntitled 97 = .ok (.iload 4, 2) := by decide +kernel
theorem dX6_bestEntitled_99 : decode cX6_bestEntitled 99 = .ok (.goto 4, 3) := by decide +kernel
theorem dX6_bestEntitled_102 : decode cX6_bestEntitled 102 = .ok (.iload_n 2, 1) := by decide +kernel
theorem dX6_bestEntitled_103 : decode cX6_bestEntitled 103 = .ok (.istore_n 2, 1) := by decide +kernel
theorem dX6_bestEntitled_104 : decode cX6_bestEntitled 104 = .ok (.iinc 3 1, 3) := by decide +kernel
theorem dX6_bestEntitled_107 : decode cX6_bestEntitled 107 = .ok (.goto (-96), 3) := by decide +kernel
theorem dX6_bestEntitled_110 : decode cX6_bestEntitled 110 = .ok (.iload_n 1, 1) := by decide +kernel
theorem dX6_bestEntitled_111 : decode cX6_bestEntitled 111 = .ok (.ireturn, 1) := by decide +kernel
set_option maxRecDepth 20000 in
theorem ggX6_command_X6_whyNotOrder : GoodIn wsX6_command wsX6_whyNotOrder := goodIn_r _ [5, 6, 7, 4, 8, 9, 10, 11, 12, 13, 14, 15] (by decide +kernel) (by decide +kernel)
set_option maxRecDepth 20000 in
theorem gX6_command_X6_whyNotOrder : GoodIn wsX6_command (va_wsS RX6 103 yX6_whyNotOrder wsX6_whyNotOrder) := goodIn_app (goodIn_of _ (by decide +kernel)) ggX6_command_X6_whyNotOrder
set_option maxRecDepth 20000 in
theorem ggX6_command_X6_orderOn : GoodIn wsX6_command wsX6_orderOn := goodIn_r _ [18, 19, 20, 4, 21, 22, 23, 24] (by decide +kernel) (by decide +kernel)
set_option maxRecDepth 20000 in
theorem gX6_command_X6_orderOn : GoodIn wsX6_command (va_wsS RX6 106 yX6_orderOn wsX6_orderOn) := goodIn_app (goodIn_of _ (by decide +kernel)) ggX6_command_X6_orderOn
set_option maxRecDepth 20000 in
theorem ggX6_command_X6_whyNotPay : GoodIn wsX6_command wsX6_whyNotPay := goodIn_r _ [27, 28, 29, 6, 7, 4, 8, 9, 10, 11] (by decide +kernel) (by decide +kernel)
set_option maxRecDepth 20000 in
theorem gX6_command_X6_whyNotPay : GoodIn wsX6_command (va_wsS RX6 172 yX6_whyNotPay wsX6_whyNotPay) := goodIn_app (goodIn_of _ (by decide +kernel)) ggX6_command_X6_whyNotPay
set_option maxRecDepth 20000 in
theorem ggX6_command_X6_payOn : GoodIn wsX6_command wsX6_payOn := goodIn_r _ [32] (by decide +kernel) (by decide +kernel)
set_option maxRecDepth 20000 in
theorem gX6_command_X6_payOn : GoodIn wsX6_command (va_wsS RX6 110 yX6_payOn wsX6_payOn) := goodIn_app (goodIn_of _ (by decide +kernel)) ggX6_command_X6_payOn
set_option maxRecDepth 20000 in
theorem ggX6_command_X6_whyNotEntitle : GoodIn wsX6_command wsX6_whyNotEntitle := goodIn_r _ [35, 15, 6, 7, 4, 8, 9, 10, 11, 12, 13, 14] (by decide +kernel) (by decide +kernel)
set_option maxRecDepth 20000 in
theorem gX6_command_X6_whyNotEntitle : GoodIn wsX6_command (va_wsS RX6 113 yX6_whyNotEntitle wsX6_whyNotEntitle) := goodIn_app (goodIn_of _ (by decide +kernel)) ggX6_command_X6_whyNotEntitle
set_option maxRecDepth 20000 in
theorem ggX6_command_X6_entitleOn : GoodIn wsX6_command wsX6_entitleOn := goodIn_r _ [38, 39, 40, 4, 41, 19, 20, 21, 42, 43, 44, 9, 10, 11] (by decide +kernel) (by decide +kernel)
set_option maxRecDepth 20000 in
theorem gX6_command_X6_entitleOn : GoodIn wsX6_command (va_wsS RX6 116 yX6_entitleOn wsX6_entitleOn) := goodIn_app (goodIn_of _ (by decide +kernel)) ggX6_command_X6_entitleOn
set_option maxRecDepth 20000 in
theorem ggX6_command_X6_isFamily : GoodIn wsX6_command wsX6_isFamily := goodIn_r _ [47, 48, 9, 10, 4, 11] (by decide +kernel) (by decide +kernel)
set_option maxRecDepth 20000 in
theorem gX6_command_X6_isFamily : GoodIn wsX6_command (va_wsS RX6 162 yX6_isFamily wsX6_isFamily) := goodIn_app (goodIn_of _ (by decide +kernel)) ggX6_command_X6_isFamily
set_option maxRecDepth 20000 in
theorem ggX6_command_X6_debt : GoodIn wsX6_command wsX6_debt := goodIn_r _ [51] (by decide +kernel) (by decide +kernel)
set_option maxRecDepth 20000 in
theorem gX6_command_X6_debt : GoodIn wsX6_command (va_wsS RX6 72 yX6_debt wsX6_debt) := goodIn_app (goodIn_of _ (by decide +kernel)) ggX6_command_X6_debt
set_option maxRecDepth 20000 in
theorem ggX6_command_X6_writeOffOn : GoodIn wsX6_command wsX6_writeOffOn := goodIn_r _ [54, 49, 50, 4, 51] (by decide +kernel) (by decide +kernel)
set_option maxRecDepth 20000 in
theorem gX6_command_X6_writeOffOn : GoodIn wsX6_command (va_wsS RX6 175 yX6_writeOffOn wsX6_writeOffOn) := goodIn_app (goodIn_of _ (by decide +kernel)) ggX6_command_X6_writeOffOn
set_option maxRecDepth 20000 in
theorem ggX6_command_X6_canGoBy : GoodIn wsX6_command wsX6_canGoBy := goodIn_r _ [57, 9, 10, 4, 11] (by decide +kernel) (by decide +kernel)
set_option maxRecDepth 20000 in
theorem gX6_command_X6_canGoBy : GoodIn wsX6_command (va_wsS RX6 119 yX6_canGoBy wsX6_canGoBy) := goodIn_app (goodIn_of _ (by decide +kernel)) ggX6_command_X6_canGoBy
set_option maxRecDepth 20000 in
theorem ggX6_command_X6_daysOn : GoodIn wsX6_command wsX6_daysOn := goodIn_r _ [60, 61, 62, 4, 63, 22, 23, 24, 19, 20, 21, 64, 65, 66, 42, 43, 44, 9, 10, 11, 67, 68, 69] (by decide +kernel) (by decide +kernel)
set_option maxRecDepth 20000 in
theorem gX6_command_X6_daysOn : GoodIn wsX6_command (va_wsS RX6 122 yX6_daysOn wsX6_daysOn) := goodIn_app (goodIn_of _ (by decide +kernel)) ggX6_command_X6_daysOn
set_option maxRecDepth 20000 in
theorem ggX6_command_X6_isChild : GoodIn wsX6_command wsX6_isChild := goodIn_r _ [8, 9, 10, 4, 11] (by decide +kernel) (by decide +kernel)
set_option maxRecDepth 20000 in
theorem gX6_command_X6_isChild : GoodIn wsX6_command (va_wsS RX6 75 yX6_isChild wsX6_isChild) := goodIn_app (goodIn_of _ (by decide +kernel)) ggX6_command_X6_isChild
set_option maxRecDepth 20000 in
theorem ggX6_command_X6_isDay : GoodIn wsX6_command wsX6_isDay := goodIn_r _ [14, 15, 9, 10, 4, 11] (by decide +kernel) (by decide +kernel)
set_option maxRecDepth 20000 in
theorem gX6_command_X6_isDay : GoodIn wsX6_command (va_wsS RX6 79 yX6_isDay wsX6_isDay) := goodIn_app (goodIn_of _ (by decide +kernel)) ggX6_command_X6_isDay
set_option maxRecDepth 20000 in
theorem ggX6_command_X6_at : GoodIn wsX6_command wsX6_at := goodIn_r _ [21] (by decide +kernel) (by decide +kernel)
set_option maxRecDepth 20000 in
theorem gX6_command_X6_at : GoodIn wsX6_command (va_wsS RX6 45 yX6_at wsX6_at) := goodIn_app (goodIn_of _ (by decide +kernel)) ggX6_command_X6_at
set_option maxRecDepth 20000 in
theorem ggX6_command_X6_served : GoodIn wsX6_command wsX6_served := goodIn_r _ [63, 22, 23, 4, 24, 19, 20, 21] (by decide +kernel) (by decide +kernel)
set_option maxRecDepth 20000 in
theorem gX6_command_X6_served : GoodIn wsX6_command (va_wsS RX6 61 yX6_served wsX6_served) := goodIn_app (goodIn_of _ (by decide +kernel)) ggX6_command_X6_served
theorem dX6_command_0 : decode cX6_command 0 = .ok (.iload_n 2, 1) := by decide +kernel
theorem dX6_command_1 : decode cX6_command 1 = .ok (.sipush 1000, 3) := by decide +kernel
theorem dX6_command_4 : decode cX6_command 4 = .ok (.idiv, 1) := by decide +kernel
theorem dX6_command_5 : decode cX6_command 5 = .ok (.istore_n 3, 1) := by decide +kernel
theorem dX6_command_6 : decode cX6_command 6 = .ok (.iload_n 2, 1) := by decide +kernel
theorem dX6_command_7 : decode cX6_command 7 = .ok (.bipush 10, 2) := by decide +kernel
theorem dX6_command_9 : decode cX6_command 9 = .ok (.idiv, 1) := by decide +kernel
theorem dX6_command_10 : decode cX6_command 10 = .ok (.bipush 100, 2) := by decide +kernel
theorem dX6_command_12 : decode cX6_command 12 = .ok (.irem, 1) := by decide +kernel
theorem dX6_command_13 : decode cX6_command 13 = .ok (.istore 4, 2) := by decide +kernel
theorem dX6_command_15 : decode cX6_command 15 = .ok (.iload_n 2, 1) := by decide +kernel
theorem dX6_command_16 : decode cX6_command 16 = .ok (.bipush 10, 2) := by decide +kernel
theorem dX6_command_18 : decode cX6_command 18 = .ok (.irem, 1) := by decide +kernel
theorem dX6_command_19 : decode cX6_command 19 = .ok (.istore 5, 2) := by decide +kernel
theorem dX6_command_21 : decode cX6_command 21 = .ok (.iload_n 1, 1) := by decide +kernel
theorem dX6_command_22 : decode cX6_command 22 = .ok (.tableswitch 419 1 9 #[50, 99, 133, 168, 213, 268, 302, 346, 394], 50) := by decide +kernel
theorem dX6_command_72 : decode cX6_command 72 = .ok (.iload 5, 2) := by decide +kernel
theorem dX6_command_74 : decode cX6_command 74 = .ok (.iconst 2, 1) := by decide +kernel
theorem dX6_command_75 : decode cX6_command 75 = .ok (.if_icmp .ge 44, 3) := by decide +kernel
theorem dX6_command_78 : decode cX6_command 78 = .ok (.aload_n 0, 1) := by decide +kernel
theorem dX6_command_79 : decode cX6_command 79 = .ok (.getfield 16, 3) := by decide +kernel
theorem dX6_command_82 : decode cX6_command 82 = .ok (.iload_n 3, 1) := by decide +kernel
theorem dX6_command_83 : decode cX6_command 83 = .ok (.iload 4, 2) := by decide +kernel
theorem dX6_command_85 : decode cX6_command 85 = .ok (.invokestatic 103, 3) := by decide +kernel
theorem dX6_command_88 : decode cX6_command 88 = .ok (.ifCond .ne 31, 3) := by decide +kernel
theorem dX6_command_91 : decode cX6_command 91 = .ok (.aload_n 0, 1) := by decide +kernel
theorem dX6_command_92 : decode cX6_command 92 = .ok (.getfield 16, 3) := by decide +kernel
theorem dX6_command_95 : decode cX6_command 95 = .ok (.iload_n 3, 1) := by decide +kernel
theorem dX6_command_96 : decode cX6_command 96 = .ok (.iload 4, 2) := by decide +kernel
theorem dX6_command_98 : decode cX6_command 98 = .ok (.iload 5, 2) := by decide +kernel
theorem dX6_command_100 : decode cX6_command 100 = .ok (.iconst 1, 1) := by decide +kernel
theorem dX6_command_101 : decode cX6_command 101 = .ok (.if_icmp .ne 7, 3) := by decide +kernel
theorem dX6_command_104 : decode cX6_command 104 = .ok (.iconst 1, 1) := by decide +kernel
theorem dX6_command_105 : decode cX6_command 105 = .ok (.goto 4, 3) := by decide +kernel
theorem dX6_command_108 : decode cX6_command 108 = .ok (.iconst 0, 1) := by decide +kernel
theorem dX6_command_109 : decode cX6_command 109 = .ok (.invokestatic 106, 3) := by decide +kernel
theorem dX6_command_112 : decode cX6_command 112 = .ok (.ifCond .lt 7, 3) := by decide +kernel
theorem dX6_command_115 : decode cX6_command 115 = .ok (.iconst 1, 1) := by decide +kernel
theorem dX6_command_116 : decode cX6_command 116 = .ok (.goto 4, 3) := by decide +kernel
theorem dX6_command_119 : decode cX6_command 119 = .ok (.iconst 0, 1) := by decide +kernel
theorem dX6_command_120 : decode cX6_command 120 = .ok (.ireturn, 1) := by decide +kernel
theorem dX6_command_121 : decode cX6_command 121 = .ok (.aload_n 0, 1) := by decide +kernel
theorem dX6_command_122 : decode cX6_command 122 = .ok (.getfield 16, 3) := by decide +kernel
theorem dX6_command_125 : decode cX6_command 125 = .ok (.iload_n 3, 1) := by decide +kernel
theorem dX6_command_126 : decode cX6_command 126 = .ok (.iload_n 2, 1) := by decide +kernel
theorem dX6_command_127 : decode cX6_command 127 = .ok (.sipush 1000, 3) := by decide +kernel
theorem dX6_command_130 : decode cX6_command 130 = .ok (.irem, 1) := by decide +kernel
theorem dX6_command_131 : decode cX6_command 131 = .ok (.invokestatic 172, 3) := by decide +kernel
theorem dX6_command_134 : decode cX6_command 134 = .ok (.ifCond .eq 5, 3) := by decide +kernel
theorem dX6_command_137 : decode cX6_command 137 = .ok (.iconst 0, 1) := by decide +kernel
theorem dX6_command_138 : decode cX6_command 138 = .ok (.ireturn, 1) := by decide +kernel
theorem dX6_command_139 : decode cX6_command 139 = .ok (.aload_n 0, 1) := by decide +kernel
theorem dX6_command_140 : decode cX6_command 140 = .ok (.getfield 16, 3) := by decide +kernel
theorem dX6_command_143 : decode cX6_command 143 = .ok (.iload_n 3, 1) := by decide +kernel
theorem dX6_command_144 : decode cX6_command 144 = .ok (.iload_n 2, 1) := by decide +kernel
theorem dX6_command_145 : decode cX6_command 145 = .ok (.sipush 1000, 3) := by decide +kernel
theorem dX6_command_148 : decode cX6_command 148 = .ok (.irem, 1) := by decide +kernel
theorem dX6_command_149 : decode cX6_command 149 = .ok (.invokestatic 110, 3) := by decide +kernel
theorem dX6_command_152 : decode cX6_command 152 = .ok (.pop, 1) := by decide +kernel
theorem dX6_command_153 : decode cX6_command 153 = .ok (.iconst 1, 1) := by decide +kernel
theorem dX6_command_154 : decode cX6_command 154 = .ok (.ireturn, 1) := by decide +kernel
theorem dX6_command_155 : decode cX6_command 155 = .ok (.iload 5, 2) := by decide +kernel
theorem dX6_command_157 : decode cX6_command 157 = .ok (.ifCond .gt 17, 3) := by decide +kernel
theorem dX6_command_160 : decode cX6_command 160 = .ok (.aload_n 0, 1) := by decide +kernel
theorem dX6_command_161 : decode cX6_command 161 = .ok (.getfield 16, 3) := by decide +kernel
theorem dX6_command_164 : decode cX6_command 164 = .ok (.iload_n 3, 1) := by decide +kernel
theorem dX6_command_165 : decode cX6_command 165 = .ok (.iconst 0, 1) := by decide +kernel
theorem dX6_command_166 : decode cX6_command 166 = .ok (.iload 4, 2) := by decide +kernel
theorem dX6_command_168 : decode cX6_command 168 = .ok (.invokestatic 113, 3) := by decide +kernel
theorem dX6_command_171 : decode cX6_command 171 = .ok (.ifCond .eq 5, 3) := by decide +kernel
theorem dX6_command_174 : decode cX6_command 174 = .ok (.iconst 0, 1) := by decide +kernel
theorem dX6_command_175 : decode cX6_command 175 = .ok (.ireturn, 1) := by decide +kernel
theorem dX6_command_176 : decode cX6_command 176 = .ok (.aload_n 0, 1) := by decide +kernel
theorem dX6_command_177 : decode cX6_command 177 = .ok (.getfield 16, 3) := by decide +kernel
theorem dX6_command_180 : decode cX6_command 180 = .ok (.iload_n 3, 1) := by decide +kernel
theorem dX6_command_181 : decode cX6_command 181 = .ok (.iconst 0, 1) := by decide +kernel
theorem dX6_command_182 : decode cX6_command 182 = .ok (.iload 4, 2) := by decide +kernel
theorem dX6_command_184 : decode cX6_command 184 = .ok (.invokestatic 116, 3) := by decide +kernel
theorem dX6_command_187 : decode cX6_command 187 = .ok (.pop, 1) := by decide +kernel
theorem dX6_command_188 : decode cX6_command 188 = .ok (.iconst 1, 1) := by decide +kernel
theorem dX6_command_189 : decode cX6_command 189 = .ok (.ireturn, 1) := by decide +kernel
theorem dX6_command_190 : decode cX6_command 190 = .ok (.iload 5, 2) := by decide +kernel
theorem dX6_command_192 : decode cX6_command 192 = .ok (.iconst 1, 1) := by decide +kernel
theorem dX6_command_193 : decode cX6_command 193 = .ok (.if_icmp .gt 23, 3) := by decide +kernel
theorem dX6_command_196 : decode cX6_command 196 = .ok (.iload_n 2, 1) := by decide +kernel
theorem dX6_command_197 : decode cX6_command 197 = .ok (.sipush 10000, 3) := by decide +kernel
theorem dX6_command_200 : decode cX6_command 200 = .ok (.irem, 1) := by decide +kernel
theorem dX6_command_201 : decode cX6_command 201 = .ok (.iconst 1, 1) := by decide +kernel
theorem dX6_command_202 : decode cX6_command 202 = .ok (.if_icmp .gt 14, 3) := by decide +kernel
theorem dX6_command_205 : decode cX6_command 205 = .ok (.iload_n 2, 1) := by decide +kernel
theorem dX6_command_206 : decode cX6_command 206 = .ok (.sipush 10000, 3) := by decide +kernel
theorem dX6_command_209 : decode cX6_command 209 = .ok (.idiv, 1) := by decide +kernel
theorem dX6_command_210 : decode cX6_command 210 = .ok (.invokestatic 162, 3) := by decide +kernel
theorem dX6_command_213 : decode cX6_command 213 = .ok (.ifCond .ne 5, 3) := by decide +kernel
theorem dX6_command_216 : decode cX6_command 216 = .ok (.iconst 0, 1) := by decide +kernel
theorem dX6_command_217 : decode cX6_command 217 = .ok (.ireturn, 1) := by decide +kernel
theorem dX6_command_218 : decode cX6_command 218 = .ok (.aload_n 0, 1) := by decide +kernel
theorem dX6_command_219 : decode cX6_command 219 = .ok (.getfield 16, 3) := by decide +kernel
theorem dX6_command_222 : decode cX6_command 222 = .ok (.bipush 105, 2) := by decide +kernel
theorem dX6_command_224 : decode cX6_command 224 = .ok (.iload_n 2, 1) := by decide +kernel
theorem dX6_command_225 : decode cX6_command 225 = .ok (.sipush 10000, 3) := by decide +kernel
theorem dX6_command_228 : decode cX6_command 228 = .ok (.idiv, 1) := by decide +kernel
theorem dX6_command_229 : decode cX6_command 229 = .ok (.iadd, 1) := by decide +kernel
theorem dX6_command_230 : decode cX6_command 230 = .ok (.iload 5, 2) := by decide +kernel
theorem dX6_command_232 : decode cX6_command 232 = .ok (.iastore, 1) := by decide +kernel
theorem dX6_command_233 : decode cX6_command 233 = .ok (.iconst 1, 1) := by decide +kernel
theorem dX6_command_234 : decode cX6_command 234 = .ok (.ireturn, 1) := by decide +kernel
theorem dX6_command_235 : decode cX6_command 235 = .ok (.iload_n 2, 1) := by decide +kernel
theorem dX6_command_236 : decode cX6_command 236 = .ok (.sipush 10000, 3) := by decide +kernel
theorem dX6_command_239 : decode cX6_command 239 = .ok (.irem, 1) := by decide +kernel
theorem dX6_command_240 : decode cX6_command 240 = .ok (.ifCond .ne 48, 3) := by decide +kernel
theorem dX6_command_243 : decode cX6_command 243 = .ok (.iload_n 2, 1) := by decide +kernel
theorem dX6_command_244 : decode cX6_command 244 = .ok (.sipush 10000, 3) := by decide +kernel
theorem dX6_command_247 : decode cX6_command 247 = .ok (.idiv, 1) := by decide +kernel
theorem dX6_command_248 : decode cX6_command 248 = .ok (.invokestatic 162, 3) := by decide +kernel
theorem dX6_command_251 : decode cX6_command 251 = .ok (.ifCond .eq 37, 3) := by decide +kernel
theorem dX6_command_254 : decode cX6_command 254 = .ok (.aload_n 0, 1) := by decide +kernel
theorem dX6_command_255 : decode cX6_command 255 = .ok (.getfield 16, 3) := by decide +kernel
theorem dX6_command_258 : decode cX6_command 258 = .ok (.iload_n 2, 1) := by decide +kernel
theorem dX6_command_259 : decode cX6_command 259 = .ok (.sipush 10000, 3) := by decide +kernel
theorem dX6_command_262 : decode cX6_command 262 = .ok (.idiv, 1) := by decide +kernel
theorem dX6_command_263 : decode cX6_command 263 = .ok (.invokestatic 72, 3) := by decide +kernel
theorem dX6_command_266 : decode cX6_command 266 = .ok (.ifCond .le 22, 3) := by decide +kernel
theorem dX6_command_269 : decode cX6_command 269 = .ok (.aload_n 0, 1) := by decide +kernel
theorem dX6_command_270 : decode cX6_command 270 = .ok (.getfield 16, 3) := by decide +kernel
theorem dX6_command_273 : decode cX6_command 273 = .ok (.iload_n 2, 1) := by decide +kernel
theorem dX6_command_274 : decode cX6_command 274 = .ok (.sipush 10000, 3) := by decide +kernel
theorem dX6_command_277 : decode cX6_command 277 = .ok (.idiv, 1) := by decide +kernel
theorem dX6_command_278 : decode cX6_command 278 = .ok (.invokestatic 175, 3) := by decide +kernel
theorem dX6_command_281 : decode cX6_command 281 = .ok (.ifCond .le 7, 3) := by decide +kernel
theorem dX6_command_284 : decode cX6_command 284 = .ok (.iconst 1, 1) := by decide +kernel
theorem dX6_command_285 : decode cX6_command 285 = .ok (.goto 4, 3) := by decide +kernel
theorem dX6_command_288 : decode cX6_command 288 = .ok (.iconst 0, 1) := by decide +kernel
theorem dX6_command_289 : decode cX6_command 289 = .ok (.ireturn, 1) := by decide +kernel
theorem dX6_command_290 : decode cX6_command 290 = .ok (.iload_n 2, 1) := by decide +kernel
theorem dX6_command_291 : decode cX6_command 291 = .ok (.bipush 100, 2) := by decide +kernel
theorem dX6_command_293 : decode cX6_command 293 = .ok (.if_icmp .ge 29, 3) := by decide +kernel
theorem dX6_command_296 : decode cX6_command 296 = .ok (.aload_n 0, 1) := by decide +kernel
theorem dX6_command_297 : decode cX6_command 297 = .ok (.getfield 16, 3) := by decide +kernel
theorem dX6_command_300 : decode cX6_command 300 = .ok (.iload_n 2, 1) := by decide +kernel
theorem dX6_command_301 : decode cX6_command 301 = .ok (.invokestatic 119, 3) := by decide +kernel
theorem dX6_command_304 : decode cX6_command 304 = .ok (.ifCond .eq 18, 3) := by decide +kernel
theorem dX6_command_307 : decode cX6_command 307 = .ok (.aload_n 0, 1) := by decide +kernel
theorem dX6_command_308 : decode cX6_command 308 = .ok (.getfield 16, 3) := by decide +kernel
theorem dX6_command_311 : decode cX6_command 311 = .ok (.iload_n 2, 1) := by decide +kernel
theorem dX6_command_312 : decode cX6_command 312 = .ok (.invokestatic 122, 3) := by decide +kernel
theorem dX6_command_315 : decode cX6_command 315 = .ok (.ifCond .lt 7, 3) := by decide +kernel
theorem dX6_command_318 : decode cX6_command 318 = .ok (.iconst 1, 1) := by decide +kernel
theorem dX6_command_319 : decode cX6_command 319 = .ok (.goto 4, 3) := by decide +kernel
theorem dX6_command_322 : decode cX6_command 322 = .ok (.iconst 0, 1) := by decide +kernel
theorem dX6_command_323 : decode cX6_command 323 = .ok (.ireturn, 1) := by decide +kernel
theorem dX6_command_324 : decode cX6_command 324 = .ok (.aload_n 0, 1) := by decide +kernel
theorem dX6_command_325 : decode cX6_command 325 = .ok (.getfield 16, 3) := by decide +kernel
theorem dX6_command_328 : decode cX6_command 328 = .ok (.iload_n 3, 1) := by decide +kernel
theorem dX6_command_329 : decode cX6_command 329 = .ok (.invokestatic 75, 3) := by decide +kernel
theorem dX6_command_332 : decode cX6_command 332 = .ok (.ifCond .eq 34, 3) := by decide +kernel
theorem dX6_command_335 : decode cX6_command 335 = .ok (.iload 4, 2) := by decide +kernel
theorem dX6_command_337 : decode cX6_command 337 = .ok (.invokestatic 79, 3) := by decide +kernel
theorem dX6_command_340 : decode cX6_command 340 = .ok (.ifCond .eq 26, 3) := by decide +kernel
theorem dX6_command_343 : decode cX6_command 343 = .ok (.aload_n 0, 1) := by decide +kernel
theorem dX6_command_344 : decode cX6_command 344 = .ok (.getfield 16, 3) := by decide +kernel
theorem dX6_command_347 : decode cX6_command 347 = .ok (.bipush 115, 2) := by decide +kernel
theorem dX6_command_349 : decode cX6_command 349 = .ok (.iload_n 3, 1) := by decide +kernel
theorem dX6_command_350 : decode cX6_command 350 = .ok (.iload 4, 2) := by decide +kernel
theorem dX6_command_352 : decode cX6_command 352 = .ok (.invokestatic 45, 3) := by decide +kernel
theorem dX6_command_355 : decode cX6_command 355 = .ok (.iadd, 1) := by decide +kernel
theorem dX6_command_356 : decode cX6_command 356 = .ok (.iaload, 1) := by decide +kernel
theorem dX6_command_357 : decode cX6_command 357 = .ok (.iload 5, 2) := by decide +kernel
theorem dX6_command_359 : decode cX6_command 359 = .ok (.if_icmp .ne 7, 3) := by decide +kernel
theorem dX6_command_362 : decode cX6_command 362 = .ok (.iconst 1, 1) := by decide +kernel
theorem dX6_command_363 : decode cX6_command 363 = .ok (.goto 4, 3) := by decide +kernel
theorem dX6_command_366 : decode cX6_command 366 = .ok (.iconst 0, 1) := by decide +kernel
theorem dX6_command_367 : decode cX6_command 367 = .ok (.ireturn, 1) := by decide +kernel
theorem dX6_command_368 : decode cX6_command 368 = .ok (.iload 5, 2) := by decide +kernel
theorem dX6_command_370 : decode cX6_command 370 = .ok (.ifCond .ne 44, 3) := by decide +kernel
theorem dX6_command_373 : decode cX6_command 373 = .ok (.iload_n 2, 1) := by decide +kernel
theorem dX6_command_374 : decode cX6_command 374 = .ok (.sipush 10000, 3) := by decide +kernel
theorem dX6_command_377 : decode cX6_command 377 = .ok (.idiv, 1) := by decide +kernel
theorem dX6_command_378 : decode cX6_command 378 = .ok (.invokestatic 162, 3) := by decide +kernel
theorem dX6_command_381 : decode cX6_command 381 = .ok (.ifCond .eq 33, 3) := by decide +kernel
theorem dX6_command_384 : decode cX6_command 384 = .ok (.aload_n 0, 1) := by decide +kernel
theorem dX6_command_385 : decode cX6_command 385 = .ok (.getfield 16, 3) := by decide +kernel
theorem dX6_command_388 : decode cX6_command 388 = .ok (.iload_n 2, 1) := by decide +kernel
theorem dX6_command_389 : decode cX6_command 389 = .ok (.sipush 10000, 3) := by decide +kernel
theorem dX6_command_392 : decode cX6_command 392 = .ok (.idiv, 1) := by decide +kernel
theorem dX6_command_393 : decode cX6_command 393 = .ok (.invokestatic 72, 3) := by decide +kernel
theorem dX6_command_396 : decode cX6_command 396 = .ok (.bipush 10, 2) := by decide +kernel
theorem dX6_command_398 : decode cX6_command 398 = .ok (.iload_n 2, 1) := by decide +kernel
theorem dX6_command_399 : decode cX6_command 399 = .ok (.bipush 10, 2) := by decide +kernel
theorem dX6_command_401 : decode cX6_command 401 = .ok (.idiv, 1) := by decide +kernel
theorem dX6_command_402 : decode cX6_command 402 = .ok (.sipush 1000, 3) := by decide +kernel
theorem dX6_command_405 : decode cX6_command 405 = .ok (.irem, 1) := by decide +kernel
theorem dX6_command_406 : decode cX6_command 406 = .ok (.imul, 1) := by decide +kernel
theorem dX6_command_407 : decode cX6_command 407 = .ok (.if_icmp .gt 7, 3) := by decide +kernel
theorem dX6_command_410 : decode cX6_command 410 = .ok (.iconst 1, 1) := by decide +kernel
theorem dX6_command_411 : decode cX6_command 411 = .ok (.goto 4, 3) := by decide +kernel
theorem dX6_command_414 : decode cX6_command 414 = .ok (.iconst 0, 1) := by decide +kernel
theorem dX6_command_415 : decode cX6_command 415 = .ok (.ireturn, 1) := by decide +kernel
theorem dX6_command_416 : decode cX6_command 416 = .ok (.iload_n 2, 1) := by decide +kernel
theorem dX6_command_417 : decode cX6_command 417 = .ok (.bipush 100, 2) := by decide +kernel
theorem dX6_command_419 : decode cX6_command 419 = .ok (.if_icmp .ge 20, 3) := by decide +kernel
theorem dX6_command_422 : decode cX6_command 422 = .ok (.aload_n 0, 1) := by decide +kernel
theorem dX6_command_423 : decode cX6_command 423 = .ok (.getfield 16, 3) := by decide +kernel
theorem dX6_command_426 : decode cX6_command 426 = .ok (.iconst (-1), 1) := by decide +kernel
theorem dX6_command_427 : decode cX6_command 427 = .ok (.iconst (-1), 1) := by decide +kernel
theorem dX6_command_428 : decode cX6_command 428 = .ok (.invokestatic 61, 3) := by decide +kernel
theorem dX6_command_431 : decode cX6_command 431 = .ok (.iload_n 2, 1) := by decide +kernel
theorem dX6_command_432 : decode cX6_command 432 = .ok (.if_icmp .lt 7, 3) := by decide +kernel
theorem dX6_command_435 : decode cX6_command 435 = .ok (.iconst 1, 1) := by decide +kernel
theorem dX6_command_436 : decode cX6_command 436 = .ok (.goto 4, 3) := by decide +kernel
theorem dX6_command_439 : decode cX6_command 439 = .ok (.iconst 0, 1) := by decide +kernel
theorem dX6_command_440 : decode cX6_command 440 = .ok (.ireturn, 1) := by decide +kernel
theorem dX6_command_441 : decode cX6_command 441 = .ok (.iconst 0, 1) := by decide +kernel
theorem dX6_command_442 : decode cX6_command 442 = .ok (.ireturn, 1) := by decide +kernel
set_option maxRecDepth 20000 in
theorem ggX6_runScript_X6_in : GoodIn wsX6_runScript wsX6_in := goodIn_r _ [9] (by decide +kernel) (by decide +kernel)
set_option maxRecDepth 20000 in
theorem gX6_runScript_X6_in : GoodIn wsX6_runScript (va_wsS RX6 37 yX6_in wsX6_in) := goodIn_app (goodIn_of _ (by decide +kernel)) ggX6_runScript_X6_in
set_option maxRecDepth 20000 in
theorem ggX6_runScript_X6_refused : GoodIn wsX6_runScript wsX6_refused := goodIn_r _ [13, 14, 86, 87, 88, 89, 90, 91, 92, 93, 94, 95, 96] (by decide +kernel) (by decide +kernel)
set_option maxRecDepth 20000 in
theorem gX6_runScript_X6_refused : GoodIn wsX6_runScript (wsV RX6 92 RX6 yX6_refused wsX6_refused) := goodIn_app (goodIn_of _ (by decide +kernel)) ggX6_runScript_X6_refused
set_option maxRecDepth 20000 in
theorem ggX6_runScript_X6_copyTerm : GoodIn wsX6_runScript wsX6_copyTerm := goodIn_r _ [17] (by decide +kernel) (by decide +kernel)
set_option maxRecDepth 20000 in
theorem gX6_runScript_X6_copyTerm : GoodIn wsX6_runScript (va_wsS RX6 144 yX6_copyTerm wsX6_copyTerm) := goodIn_app (goodIn_of _ (by decide +kernel)) ggX6_runScript_X6_copyTerm
set_option maxRecDepth 20000 in
theorem ggX6_runScript_X6_command : GoodIn wsX6_runScript wsX6_command := goodIn_r _ [21, 4, 22, 23, 8, 24, 25, 26, 27, 6, 7, 9, 28, 29, 30, 31, 32, 33, 34, 35, 36, 37, 38, 39, 40, 41, 42, 43, 44, 45, 46, 47, 48, 49, 50, 51, 52, 53, 54, 55, 56, 57, 58, 59, 60, 61, 62, 63, 64, 65, 66, 67, 68, 69, 70, 71, 72, 73, 74, 75, 76, 77, 78, 79, 80, 81, 82, 83, 84, 85, 86, 87, 88, 89, 90, 91, 92, 93, 94, 95, 96] (by decide +kernel) (by decide +kernel)
set_option maxRecDepth 20000 in
theorem gX6_runScript_X6_command : GoodIn wsX6_runScript (wsV RX6 192 RX6 yX6_command wsX6_command) := goodIn_app (goodIn_of _ (by decide +kernel)) ggX6_runScript_X6_command
theorem dX6_runScript_0 : decode cX6_runScript 0 = .ok (.lconst 1, 1) := by decide +kernel
theorem dX6_runScript_1 : decode cX6_runScript 1 = .ok (.lstore 4, 2) := by decide +kernel
theorem dX6_runScript_3 : decode cX6_runScript 3 = .ok (.iconst 0, 1) := by decide +kernel
theorem dX6_runScript_4 : decode cX6_runScript 4 = .ok (.istore 6, 2) := by decide +kernel
theorem dX6_runScript_6 : decode cX6_runScript 6 = .ok (.iload 6, 2) := by decide +kernel
theorem dX6_runScript_8 : decode cX6_runScript 8 = .ok (.iload_n 1, 1) := by decide +kernel
theorem dX6_runScript_9 : decode cX6_runScript 9 = .ok (.if_icmp .ge 23, 3) := by decide +kernel
theorem dX6_runScript_12 : decode cX6_runScript 12 = .ok (.iload 6, 2) := by decide +kernel
theorem dX6_runScript_14 : decode cX6_runScript 14 = .ok (.iconst 3, 1) := by decide +kernel
theorem dX6_runScript_15 : decode cX6_runScript 15 = .ok (.if_icmp .ge 17, 3) := by decide +kernel
theorem dX6_runScript_18 : decode cX6_runScript 18 = .ok (.lload 4, 2) := by decide +kernel
theorem dX6_runScript_20 : decode cX6_runScript 20 = .ok (.ldc2_w 189, 3) := by decide +kernel
theorem dX6_runScript_23 : decode cX6_runScript 23 = .ok (.lmul, 1) := by decide +kernel
theorem dX6_runScript_24 : decode cX6_runScript 24 = .ok (.lstore 4, 2) := by decide +kernel
theorem dX6_runScript_26 : decode cX6_runScript 26 = .ok (.iinc 6 1, 3) := by decide +kernel
theorem dX6_runScript_29 : decode cX6_runScript 29 = .ok (.goto (-23), 3) := by decide +kernel
theorem dX6_runScript_32 : decode cX6_runScript 32 = .ok (.aload_n 0, 1) := by decide +kernel
theorem dX6_runScript_33 : decode cX6_runScript 33 = .ok (.iload_n 1, 1) := by decide +kernel
theorem dX6_runScript_34 : decode cX6_runScript 34 = .ok (.i2l, 1) := by decide +kernel
theorem dX6_runScript_35 : decode cX6_runScript 35 = .ok (.lconst 1, 1) := by decide +kernel
theorem dX6_runScript_36 : decode cX6_runScript 36 = .ok (.ldc2_w 165, 3) := by decide +kernel
theorem dX6_runScript_39 : decode cX6_runScript 39 = .ok (.invokestatic 37, 3) := by decide +kernel
theorem dX6_runScript_42 : decode cX6_runScript 42 = .ok (.ifCond .eq 19, 3) := by decide +kernel
theorem dX6_runScript_45 : decode cX6_runScript 45 = .ok (.lload_n 2, 1) := by decide +kernel
theorem dX6_runScript_46 : decode cX6_runScript 46 = .ok (.lconst 0, 1) := by decide +kernel
theorem dX6_runScript_47 : decode cX6_runScript 47 = .ok (.lload 4, 2) := by decide +kernel
theorem dX6_runScript_49 : decode cX6_runScript 49 = .ok (.lconst 1, 1) := by decide +kernel
theorem dX6_runScript_50 : decode cX6_runScript 50 = .ok (.lsub, 1) := by decide +kernel
theorem dX6_runScript_51 : decode cX6_runScript 51 = .ok (.invokestatic 37, 3) := by decide +kernel
theorem dX6_runScript_54 : decode cX6_runScript 54 = .ok (.ifCond .eq 7, 3) := by decide +kernel
theorem dX6_runScript_57 : decode cX6_runScript 57 = .ok (.iconst 0, 1) := by decide +kernel
theorem dX6_runScript_58 : decode cX6_runScript 58 = .ok (.goto 4, 3) := by decide +kernel
theorem dX6_runScript_61 : decode cX6_runScript 61 = .ok (.iconst 1, 1) := by decide +kernel
theorem dX6_runScript_62 : decode cX6_runScript 62 = .ok (.invokevirtual 92, 3) := by decide +kernel
theorem dX6_runScript_65 : decode cX6_runScript 65 = .ok (.ifCond .eq 5, 3) := by decide +kernel
theorem dX6_runScript_68 : decode cX6_runScript 68 = .ok (.iconst 0, 1) := by decide +kernel
theorem dX6_runScript_69 : decode cX6_runScript 69 = .ok (.ireturn, 1) := by decide +kernel
theorem dX6_runScript_70 : decode cX6_runScript 70 = .ok (.aload_n 0, 1) := by decide +kernel
theorem dX6_runScript_71 : decode cX6_runScript 71 = .ok (.getfield 13, 3) := by decide +kernel
theorem dX6_runScript_74 : decode cX6_runScript 74 = .ok (.iconst 0, 1) := by decide +kernel
theorem dX6_runScript_75 : decode cX6_runScript 75 = .ok (.aload_n 0, 1) := by decide +kernel
theorem dX6_runScript_76 : decode cX6_runScript 76 = .ok (.getfield 16, 3) := by decide +kernel
theorem dX6_runScript_79 : decode cX6_runScript 79 = .ok (.iconst 0, 1) := by decide +kernel
theorem dX6_runScript_80 : decode cX6_runScript 80 = .ok (.invokestatic 144, 3) := by decide +kernel
theorem dX6_runScript_83 : decode cX6_runScript 83 = .ok (.iconst 0, 1) := by decide +kernel
theorem dX6_runScript_84 : decode cX6_runScript 84 = .ok (.istore 6, 2) := by decide +kernel
theorem dX6_runScript_86 : decode cX6_runScript 86 = .ok (.iload 6, 2) := by decide +kernel
theorem dX6_runScript_88 : decode cX6_runScript 88 = .ok (.iload_n 1, 1) := by decide +kernel
theorem dX6_runScript_89 : decode cX6_runScript 89 = .ok (.if_icmp .ge 48, 3) := by decide +kernel
theorem dX6_runScript_92 : decode cX6_runScript 92 = .ok (.lload 4, 2) := by decide +kernel
theorem dX6_runScript_94 : decode cX6_runScript 94 = .ok (.ldc2_w 189, 3) := by decide +kernel
theorem dX6_runScript_97 : decode cX6_runScript 97 = .ok (.ldiv, 1) := by decide +kernel
theorem dX6_runScript_98 : decode cX6_runScript 98 = .ok (.lstore 4, 2) := by decide +kernel
theorem dX6_runScript_100 : decode cX6_runScript 100 = .ok (.lload_n 2, 1) := by decide +kernel
theorem dX6_runScript_101 : decode cX6_runScript 101 = .ok (.lload 4, 2) := by decide +kernel
theorem dX6_runScript_103 : decode cX6_runScript 103 = .ok (.ldiv, 1) := by decide +kernel
theorem dX6_runScript_104 : decode cX6_runScript 104 = .ok (.ldc2_w 189, 3) := by decide +kernel
theorem dX6_runScript_107 : decode cX6_runScript 107 = .ok (.lrem, 1) := by decide +kernel
theorem dX6_runScript_108 : decode cX6_runScript 108 = .ok (.l2i, 1) := by decide +kernel
theorem dX6_runScript_109 : decode cX6_runScript 109 = .ok (.istore 7, 2) := by decide +kernel
theorem dX6_runScript_111 : decode cX6_runScript 111 = .ok (.aload_n 0, 1) := by decide +kernel
theorem dX6_runScript_112 : decode cX6_runScript 112 = .ok (.iload 7, 2) := by decide +kernel
theorem dX6_runScript_114 : decode cX6_runScript 114 = .ok (.ldc 191, 2) := by decide +kernel
theorem dX6_runScript_116 : decode cX6_runScript 116 = .ok (.idiv, 1) := by decide +kernel
theorem dX6_runScript_117 : decode cX6_runScript 117 = .ok (.iload 7, 2) := by decide +kernel
theorem dX6_runScript_119 : decode cX6_runScript 119 = .ok (.ldc 191, 2) := by decide +kernel
theorem dX6_runScript_121 : decode cX6_runScript 121 = .ok (.irem, 1) := by decide +kernel
theorem dX6_runScript_122 : decode cX6_runScript 122 = .ok (.invokevirtual 192, 3) := by decide +kernel
theorem dX6_runScript_125 : decode cX6_runScript 125 = .ok (.ifCond .ne 6, 3) := by decide +kernel
theorem dX6_runScript_128 : decode cX6_runScript 128 = .ok (.iload 6, 2) := by decide +kernel
theorem dX6_runScript_130 : decode cX6_runScript 130 = .ok (.ireturn, 1) := by decide +kernel
theorem dX6_runScript_131 : decode cX6_runScript 131 = .ok (.iinc 6 1, 3) := by decide +kernel
theorem dX6_runScript_134 : decode cX6_runScript 134 = .ok (.goto (-48), 3) := by decide +kernel
theorem dX6_runScript_137 : decode cX6_runScript 137 = .ok (.iconst (-1), 1) := by decide +kernel
theorem dX6_runScript_138 : decode cX6_runScript 138 = .ok (.ireturn, 1) := by decide +kernel
set_option maxRecDepth 20000 in
theorem ggX6_turn_X6_does : GoodIn wsX6_turn wsX6_does := goodIn_r _ [5, 6, 7, 4, 8, 9, 10, 11, 12, 13, 14, 15, 16, 17, 18, 19, 20, 21, 22, 23, 24, 25, 26, 27, 28, 29, 30, 31, 32, 33, 34, 35, 36, 37, 38, 39, 40, 41, 42, 43, 44, 45, 46, 47, 48, 49, 50, 51, 52, 53, 54, 55, 56, 57, 58, 59, 60] (by decide +kernel) (by decide +kernel)
set_option maxRecDepth 20000 in
theorem gX6_turn_X6_does : GoodIn wsX6_turn (va_wsS RX6 132 yX6_does wsX6_does) := goodIn_app (goodIn_of _ (by decide +kernel)) ggX6_turn_X6_does
set_option maxRecDepth 20000 in
theorem ggX6_turn_X6_whyNotOrder : GoodIn wsX6_turn wsX6_whyNotOrder := goodIn_r _ [11, 12, 13, 4, 14, 15, 16, 17, 18, 19, 20, 21] (by decide +kernel) (by decide +kernel)
set_option maxRecDepth 20000 in
theorem gX6_turn_X6_whyNotOrder : GoodIn wsX6_turn (va_wsS RX6 103 yX6_whyNotOrder wsX6_whyNotOrder) := goodIn_app (goodIn_of _ (by decide +kernel)) ggX6_turn_X6_whyNotOrder
set_option maxRecDepth 20000 in
theorem ggX6_turn_X6_orderOn : GoodIn wsX6_turn wsX6_orderOn := goodIn_r _ [27, 22, 23, 4, 24, 28, 29, 30] (by decide +kernel) (by decide +kernel)
set_option maxRecDepth 20000 in
theorem gX6_turn_X6_orderOn : GoodIn wsX6_turn (va_wsS RX6 106 yX6_orderOn wsX6_orderOn) := goodIn_app (goodIn_of _ (by decide +kernel)) ggX6_turn_X6_orderOn
set_option maxRecDepth 20000 in
theorem ggX6_turn_X6_debt : GoodIn wsX6_turn wsX6_debt := goodIn_r _ [63] (by decide +kernel) (by decide +kernel)
set_option maxRecDepth 20000 in
theorem gX6_turn_X6_debt : GoodIn wsX6_turn (va_wsS RX6 72 yX6_debt wsX6_debt) := goodIn_app (goodIn_of _ (by decide +kernel)) ggX6_turn_X6_debt
set_option maxRecDepth 20000 in
theorem ggX6_turn_X6_writeOffOn : GoodIn wsX6_turn wsX6_writeOffOn := goodIn_r _ [66, 61, 62, 4, 63] (by decide +kernel) (by decide +kernel)
set_option maxRecDepth 20000 in
theorem gX6_turn_X6_writeOffOn : GoodIn wsX6_turn (va_wsS RX6 175 yX6_writeOffOn wsX6_writeOffOn) := goodIn_app (goodIn_of _ (by decide +kernel)) ggX6_turn_X6_writeOffOn
theorem dX6_turn_0 : decode cX6_turn 0 = .ok (.iload_n 1, 1) := by decide +kernel
theorem dX6_turn_1 : decode cX6_turn 1 = .ok (.bipush 16, 2) := by decide +kernel
theorem dX6_turn_3 : decode cX6_turn 3 = .ok (.idiv, 1) := by decide +kernel
theorem dX6_turn_4 : decode cX6_turn 4 = .ok (.aload_n 0, 1) := by decide +kernel
theorem dX6_turn_5 : decode cX6_turn 5 = .ok (.getfield 16, 3) := by decide +kernel
theorem dX6_turn_8 : decode cX6_turn 8 = .ok (.iconst 1, 1) := by decide +kernel
theorem dX6_turn_9 : decode cX6_turn 9 = .ok (.iaload, 1) := by decide +kernel
theorem dX6_turn_10 : decode cX6_turn 10 = .ok (.ifCond .ne 7, 3) := by decide +kernel
theorem dX6_turn_13 : decode cX6_turn 13 = .ok (.iconst 1, 1) := by decide +kernel
theorem dX6_turn_14 : decode cX6_turn 14 = .ok (.goto 9, 3) := by decide +kernel
theorem dX6_turn_17 : decode cX6_turn 17 = .ok (.aload_n 0, 1) := by decide +kernel
theorem dX6_turn_18 : decode cX6_turn 18 = .ok (.getfield 16, 3) := by decide +kernel
theorem dX6_turn_21 : decode cX6_turn 21 = .ok (.iconst 1, 1) := by decide +kernel
theorem dX6_turn_22 : decode cX6_turn 22 = .ok (.iaload, 1) := by decide +kernel
theorem dX6_turn_23 : decode cX6_turn 23 = .ok (.irem, 1) := by decide +kernel
theorem dX6_turn_24 : decode cX6_turn 24 = .ok (.istore_n 2, 1) := by decide +kernel
theorem dX6_turn_25 : decode cX6_turn 25 = .ok (.iload_n 1, 1) := by decide +kernel
theorem dX6_turn_26 : decode cX6_turn 26 = .ok (.sipush 256, 3) := by decide +kernel
theorem dX6_turn_29 : decode cX6_turn 29 = .ok (.idiv, 1) := by decide +kernel
theorem dX6_turn_30 : decode cX6_turn 30 = .ok (.bipush 40, 2) := by decide +kernel
theorem dX6_turn_32 : decode cX6_turn 32 = .ok (.irem, 1) := by decide +kernel
theorem dX6_turn_33 : decode cX6_turn 33 = .ok (.istore_n 3, 1) := by decide +kernel
theorem dX6_turn_34 : decode cX6_turn 34 = .ok (.iload_n 1, 1) := by decide +kernel
theorem dX6_turn_35 : decode cX6_turn 35 = .ok (.bipush 16, 2) := by decide +kernel
theorem dX6_turn_37 : decode cX6_turn 37 = .ok (.irem, 1) := by decide +kernel
theorem dX6_turn_38 : decode cX6_turn 38 = .ok (.istore 4, 2) := by decide +kernel
theorem dX6_turn_40 : decode cX6_turn 40 = .ok (.iload 4, 2) := by decide +kernel
theorem dX6_turn_42 : decode cX6_turn 42 = .ok (.ifCond .ne 30, 3) := by decide +kernel
theorem dX6_turn_45 : decode cX6_turn 45 = .ok (.aload_n 0, 1) := by decide +kernel
theorem dX6_turn_46 : decode cX6_turn 46 = .ok (.getfield 16, 3) := by decide +kernel
theorem dX6_turn_49 : decode cX6_turn 49 = .ok (.bipush 99, 2) := by decide +kernel
theorem dX6_turn_51 : decode cX6_turn 51 = .ok (.iload_n 1, 1) := by decide +kernel
theorem dX6_turn_52 : decode cX6_turn 52 = .ok (.bipush 16, 2) := by decide +kernel
theorem dX6_turn_54 : decode cX6_turn 54 = .ok (.idiv, 1) := by decide +kernel
theorem dX6_turn_55 : decode cX6_turn 55 = .ok (.iconst 5, 1) := by decide +kernel
theorem dX6_turn_56 : decode cX6_turn 56 = .ok (.irem, 1) := by decide +kernel
theorem dX6_turn_57 : decode cX6_turn 57 = .ok (.iload_n 1, 1) := by decide +kernel
theorem dX6_turn_58 : decode cX6_turn 58 = .ok (.sipush 128, 3) := by decide +kernel
theorem dX6_turn_61 : decode cX6_turn 61 = .ok (.idiv, 1) := by decide +kernel
theorem dX6_turn_62 : decode cX6_turn 62 = .ok (.iconst 4, 1) := by decide +kernel
theorem dX6_turn_63 : decode cX6_turn 63 = .ok (.irem, 1) := by decide +kernel
theorem dX6_turn_64 : decode cX6_turn 64 = .ok (.iconst 0, 1) := by decide +kernel
theorem dX6_turn_65 : decode cX6_turn 65 = .ok (.invokestatic 132, 3) := by decide +kernel
theorem dX6_turn_68 : decode cX6_turn 68 = .ok (.pop, 1) := by decide +kernel
theorem dX6_turn_69 : decode cX6_turn 69 = .ok (.goto 200, 3) := by decide +kernel
theorem dX6_turn_72 : decode cX6_turn 72 = .ok (.iload 4, 2) := by decide +kernel
theorem dX6_turn_74 : decode cX6_turn 74 = .ok (.bipush 7, 2) := by decide +kernel
theorem dX6_turn_76 : decode cX6_turn 76 = .ok (.if_icmp .ge 29, 3) := by decide +kernel
theorem dX6_turn_79 : decode cX6_turn 79 = .ok (.aload_n 0, 1) := by decide +kernel
theorem dX6_turn_80 : decode cX6_turn 80 = .ok (.getfield 16, 3) := by decide +kernel
theorem dX6_turn_83 : decode cX6_turn 83 = .ok (.iload_n 2, 1) := by decide +kernel
theorem dX6_turn_84 : decode cX6_turn 84 = .ok (.iload_n 3, 1) := by decide +kernel
theorem dX6_turn_85 : decode cX6_turn 85 = .ok (.invokestatic 103, 3) := by decide +kernel
theorem dX6_turn_88 : decode cX6_turn 88 = .ok (.ifCond .ne 181, 3) := by decide +kernel
theorem dX6_turn_91 : decode cX6_turn 91 = .ok (.aload_n 0, 1) := by decide +kernel
theorem dX6_turn_92 : decode cX6_turn 92 = .ok (.getfield 16, 3) := by decide +kernel
theorem dX6_turn_95 : decode cX6_turn 95 = .ok (.iload_n 2, 1) := by decide +kernel
theorem dX6_turn_96 : decode cX6_turn 96 = .ok (.iload_n 3, 1) := by decide +kernel
theorem dX6_turn_97 : decode cX6_turn 97 = .ok (.iconst 1, 1) := by decide +kernel
theorem dX6_turn_98 : decode cX6_turn 98 = .ok (.invokestatic 106, 3) := by decide +kernel
theorem dX6_turn_101 : decode cX6_turn 101 = .ok (.pop, 1) := by decide +kernel
theorem dX6_turn_102 : decode cX6_turn 102 = .ok (.goto 167, 3) := by decide +kernel
theorem dX6_turn_105 : decode cX6_turn 105 = .ok (.iload 4, 2) := by decide +kernel
theorem dX6_turn_107 : decode cX6_turn 107 = .ok (.bipush 9, 2) := by decide +kernel
theorem dX6_turn_109 : decode cX6_turn 109 = .ok (.if_icmp .ge 29, 3) := by decide +kernel
theorem dX6_turn_112 : decode cX6_turn 112 = .ok (.aload_n 0, 1) := by decide +kernel
theorem dX6_turn_113 : decode cX6_turn 113 = .ok (.getfield 16, 3) := by decide +kernel
theorem dX6_turn_116 : decode cX6_turn 116 = .ok (.bipush 112, 2) := by decide +kernel
theorem dX6_turn_118 : decode cX6_turn 118 = .ok (.iload_n 2, 1) := by decide +kernel
theorem dX6_turn_119 : decode cX6_turn 119 = .ok (.iconst 1, 1) := by decide +kernel
theorem dX6_turn_120 : decode cX6_turn 120 = .ok (.iload_n 1, 1) := by decide +kernel
theorem dX6_turn_121 : decode cX6_turn 121 = .ok (.sipush 16384, 3) := by decide +kernel
theorem dX6_turn_124 : decode cX6_turn 124 = .ok (.idiv, 1) := by decide +kernel
theorem dX6_turn_125 : decode cX6_turn 125 = .ok (.sipush 999, 3) := by decide +kernel
theorem dX6_turn_128 : decode cX6_turn 128 = .ok (.irem, 1) := by decide +kernel
theorem dX6_turn_129 : decode cX6_turn 129 = .ok (.iadd, 1) := by decide +kernel
theorem dX6_turn_130 : decode cX6_turn 130 = .ok (.iconst 0, 1) := by decide +kernel
theorem dX6_turn_131 : decode cX6_turn 131 = .ok (.invokestatic 132, 3) := by decide +kernel
theorem dX6_turn_134 : decode cX6_turn 134 = .ok (.pop, 1) := by decide +kernel
theorem dX6_turn_135 : decode cX6_turn 135 = .ok (.goto 134, 3) := by decide +kernel
theorem dX6_turn_138 : decode cX6_turn 138 = .ok (.iload 4, 2) := by decide +kernel
theorem dX6_turn_140 : decode cX6_turn 140 = .ok (.bipush 9, 2) := by decide +kernel
theorem dX6_turn_142 : decode cX6_turn 142 = .ok (.if_icmp .ne 20, 3) := by decide +kernel
theorem dX6_turn_145 : decode cX6_turn 145 = .ok (.aload_n 0, 1) := by decide +kernel
theorem dX6_turn_146 : decode cX6_turn 146 = .ok (.getfield 16, 3) := by decide +kernel
theorem dX6_turn_149 : decode cX6_turn 149 = .ok (.bipush 101, 2) := by decide +kernel
theorem dX6_turn_151 : decode cX6_turn 151 = .ok (.iload_n 2, 1) := by decide +kernel
theorem dX6_turn_152 : decode cX6_turn 152 = .ok (.iload_n 3, 1) := by decide +kernel
theorem dX6_turn_153 : decode cX6_turn 153 = .ok (.bipush 39, 2) := by decide +kernel
theorem dX6_turn_155 : decode cX6_turn 155 = .ok (.invokestatic 132, 3) := by decide +kernel
theorem dX6_turn_158 : decode cX6_turn 158 = .ok (.pop, 1) := by decide +kernel
theorem dX6_turn_159 : decode cX6_turn 159 = .ok (.goto 110, 3) := by decide +kernel
theorem dX6_turn_162 : decode cX6_turn 162 = .ok (.iload 4, 2) := by decide +kernel
theorem dX6_turn_164 : decode cX6_turn 164 = .ok (.bipush 10, 2) := by decide +kernel
theorem dX6_turn_166 : decode cX6_turn 166 = .ok (.if_icmp .ne 21, 3) := by decide +kernel
theorem dX6_turn_169 : decode cX6_turn 169 = .ok (.aload_n 0, 1) := by decide +kernel
theorem dX6_turn_170 : decode cX6_turn 170 = .ok (.getfield 16, 3) := by decide +kernel
theorem dX6_turn_173 : decode cX6_turn 173 = .ok (.bipush 105, 2) := by decide +kernel
theorem dX6_turn_175 : decode cX6_turn 175 = .ok (.iload_n 1, 1) := by decide +kernel
theorem dX6_turn_176 : decode cX6_turn 176 = .ok (.bipush 16, 2) := by decide +kernel
theorem dX6_turn_178 : decode cX6_turn 178 = .ok (.idiv, 1) := by decide +kernel
theorem dX6_turn_179 : decode cX6_turn 179 = .ok (.iconst 5, 1) := by decide +kernel
theorem dX6_turn_180 : decode cX6_turn 180 = .ok (.irem, 1) := by decide +kernel
theorem dX6_turn_181 : decode cX6_turn 181 = .ok (.iadd, 1) := by decide +kernel
theorem dX6_turn_182 : decode cX6_turn 182 = .ok (.iconst 1, 1) := by decide +kernel
theorem dX6_turn_183 : decode cX6_turn 183 = .ok (.iastore, 1) := by decide +kernel
theorem dX6_turn_184 : decode cX6_turn 184 = .ok (.goto 85, 3) := by decide +kernel
theorem dX6_turn_187 : decode cX6_turn 187 = .ok (.iload 4, 2) := by decide +kernel
theorem dX6_turn_189 : decode cX6_turn 189 = .ok (.bipush 11, 2) := by decide +kernel
theorem dX6_turn_191 : decode cX6_turn 191 = .ok (.if_icmp .ne 25, 3) := by decide +kernel
theorem dX6_turn_194 : decode cX6_turn 194 = .ok (.aload_n 0, 1) := by decide +kernel
theorem dX6_turn_195 : decode cX6_turn 195 = .ok (.getfield 16, 3) := by decide +kernel
theorem dX6_turn_198 : decode cX6_turn 198 = .ok (.bipush 109, 2) := by decide +kernel
theorem dX6_turn_200 : decode cX6_turn 200 = .ok (.iload_n 3, 1) := by decide +kernel
theorem dX6_turn_201 : decode cX6_turn 201 = .ok (.iload_n 1, 1) := by decide +kernel
theorem dX6_turn_202 : decode cX6_turn 202 = .ok (.sipush 16384, 3) := by decide +kernel
theorem dX6_turn_205 : decode cX6_turn 205 = .ok (.idiv, 1) := by decide +kernel
theorem dX6_turn_206 : decode cX6_turn 206 = .ok (.iconst 4, 1) := by decide +kernel
theorem dX6_turn_207 : decode cX6_turn 207 = .ok (.irem, 1) := by decide +kernel
theorem dX6_turn_208 : decode cX6_turn 208 = .ok (.iconst 0, 1) := by decide +kernel
theorem dX6_turn_209 : decode cX6_turn 209 = .ok (.invokestatic 132, 3) := by decide +kernel
theorem dX6_turn_212 : decode cX6_turn 212 = .ok (.pop, 1) := by decide +kernel
theorem dX6_turn_213 : decode cX6_turn 213 = .ok (.goto 56, 3) := by decide +kernel
theorem dX6_turn_216 : decode cX6_turn 216 = .ok (.iload 4, 2) := by decide +kernel
theorem dX6_turn_218 : decode cX6_turn 218 = .ok (.bipush 15, 2) := by decide +kernel
