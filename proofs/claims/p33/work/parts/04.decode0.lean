set_option maxRecDepth 20000 in
theorem ggX0_performText_X2_tryCome : GoodIn wsX0_performText wsX2_tryCome := goodIn_r _ [7, 8, 9, 10, 6, 11, 12, 13, 14, 15, 16, 17, 18, 19, 20, 21, 22, 23, 24, 199, 200, 201, 202, 203, 204, 205, 206, 207, 208, 209, 210, 211, 212] (by decide +kernel) (by decide +kernel)
set_option maxRecDepth 20000 in
theorem gX0_performText_X2_tryCome : GoodIn wsX0_performText (wsV RX0 19 RX2 yX2_tryCome wsX2_tryCome) := goodIn_app (goodIn_of _ (by decide +kernel)) ggX0_performText_X2_tryCome
set_option maxRecDepth 20000 in
theorem ggX0_performText_X2_tryMenu : GoodIn wsX0_performText wsX2_tryMenu := goodIn_r _ [28, 29, 30, 31, 6, 32, 33, 34, 14, 35, 36, 37, 38, 39, 40, 199, 200, 201, 202, 203, 204, 205, 206, 207, 208, 209, 210, 211, 212] (by decide +kernel) (by decide +kernel)
set_option maxRecDepth 20000 in
theorem gX0_performText_X2_tryMenu : GoodIn wsX0_performText (wsV RX0 25 RX2 yX2_tryMenu wsX2_tryMenu) := goodIn_app (goodIn_of _ (by decide +kernel)) ggX0_performText_X2_tryMenu
set_option maxRecDepth 20000 in
theorem ggX0_performText_X2_tryOtherOrder : GoodIn wsX0_performText wsX2_tryOtherOrder := goodIn_r _ [44, 45, 46, 47, 48, 6, 49, 12, 34, 14, 35, 50, 51, 52, 53, 54, 55, 56, 57, 58, 59, 60, 61, 62, 63, 64, 65, 66, 33, 67, 68, 69, 70, 71, 72, 73, 74, 75, 76, 77, 78, 79, 80, 81, 82, 83, 199, 200, 201, 202, 203, 204, 205, 206, 207, 208, 209, 210, 211, 212, 213, 214, 215] (by decide +kernel) (by decide +kernel)
set_option maxRecDepth 20000 in
theorem gX0_performText_X2_tryOtherOrder : GoodIn wsX0_performText (wsV RX0 28 RX2 yX2_tryOtherOrder wsX2_tryOtherOrder) := goodIn_app (goodIn_of _ (by decide +kernel)) ggX0_performText_X2_tryOtherOrder
set_option maxRecDepth 20000 in
theorem ggX0_performText_X2_tryPay : GoodIn wsX0_performText wsX2_tryPay := goodIn_r _ [87, 88, 89, 90, 6, 91, 22, 46, 47, 48, 49, 12, 92, 93, 94, 95, 96, 199, 200, 201, 202, 203, 204, 205, 206, 207, 208, 209, 210, 211, 212] (by decide +kernel) (by decide +kernel)
set_option maxRecDepth 20000 in
theorem gX0_performText_X2_tryPay : GoodIn wsX0_performText (wsV RX0 31 RX2 yX2_tryPay wsX2_tryPay) := goodIn_app (goodIn_of _ (by decide +kernel)) ggX0_performText_X2_tryPay
set_option maxRecDepth 20000 in
theorem ggX0_performText_X2_tryEntitle : GoodIn wsX0_performText wsX2_tryEntitle := goodIn_r _ [100, 101, 102, 103, 6, 104, 46, 47, 48, 49, 12, 34, 14, 35, 105, 106, 107, 108, 23, 24, 33, 109, 110, 111, 112, 22, 113, 114, 115, 116, 45, 117, 118, 119, 120, 53, 121, 55, 122, 56, 57, 58, 123, 124, 125, 126, 127, 128, 129, 130, 131, 71, 72, 73, 74, 50, 51, 52, 54, 132, 133, 134, 135, 199, 200, 201, 202, 203, 204, 205, 206, 207, 208, 209, 210, 211, 212, 213, 214, 215] (by decide +kernel) (by decide +kernel)
set_option maxRecDepth 20000 in
theorem gX0_performText_X2_tryEntitle : GoodIn wsX0_performText (wsV RX0 34 RX2 yX2_tryEntitle wsX2_tryEntitle) := goodIn_app (goodIn_of _ (by decide +kernel)) ggX0_performText_X2_tryEntitle
set_option maxRecDepth 20000 in
theorem ggX0_performText_X2_tryOtherSharing : GoodIn wsX0_performText wsX2_tryOtherSharing := goodIn_r _ [139, 140, 13, 14, 15, 141, 142, 143, 6, 144, 145, 146, 147, 148, 149, 150, 151, 152, 153, 154, 155, 156, 12, 20, 22, 199, 200, 201, 202, 203, 204, 205, 206, 207, 208, 209, 210, 211, 212] (by decide +kernel) (by decide +kernel)
set_option maxRecDepth 20000 in
theorem gX0_performText_X2_tryOtherSharing : GoodIn wsX0_performText (wsV RX0 38 RX2 yX2_tryOtherSharing wsX2_tryOtherSharing) := goodIn_app (goodIn_of _ (by decide +kernel)) ggX0_performText_X2_tryOtherSharing
set_option maxRecDepth 20000 in
theorem ggX0_performText_X2_tryDays : GoodIn wsX0_performText wsX2_tryDays := goodIn_r _ [160, 161, 162, 163, 6, 164, 165, 166, 167, 168, 33, 169, 170, 171, 172, 12, 45, 50, 51, 52, 53, 54, 55, 56, 57, 58, 173, 174, 175, 176, 22, 117, 177, 178, 179, 180, 181, 140, 20, 182, 183, 184, 185, 40, 21, 123, 124, 125, 126, 23, 24, 186, 187, 188, 189, 190, 191, 192, 193, 71, 72, 73, 74, 132, 133, 134, 135, 131, 122, 199, 200, 201, 202, 203, 204, 205, 206, 207, 208, 209, 210, 211, 212, 213, 214, 215] (by decide +kernel) (by decide +kernel)
set_option maxRecDepth 20000 in
theorem gX0_performText_X2_tryDays : GoodIn wsX0_performText (wsV RX0 42 RX2 yX2_tryDays wsX2_tryDays) := goodIn_app (goodIn_of _ (by decide +kernel)) ggX0_performText_X2_tryDays
theorem dX0_performText_0 : decode cX0_performText 0 = .ok (.aload_n 1, 1) := by decide +kernel
theorem dX0_performText_1 : decode cX0_performText 1 = .ok (.getfield 9, 3) := by decide +kernel
theorem dX0_performText_4 : decode cX0_performText 4 = .ok (.iconst 0, 1) := by decide +kernel
theorem dX0_performText_5 : decode cX0_performText 5 = .ok (.iaload, 1) := by decide +kernel
theorem dX0_performText_6 : decode cX0_performText 6 = .ok (.istore_n 2, 1) := by decide +kernel
theorem dX0_performText_7 : decode cX0_performText 7 = .ok (.aload_n 1, 1) := by decide +kernel
theorem dX0_performText_8 : decode cX0_performText 8 = .ok (.getfield 9, 3) := by decide +kernel
theorem dX0_performText_11 : decode cX0_performText 11 = .ok (.iconst 1, 1) := by decide +kernel
theorem dX0_performText_12 : decode cX0_performText 12 = .ok (.iaload, 1) := by decide +kernel
theorem dX0_performText_13 : decode cX0_performText 13 = .ok (.istore_n 3, 1) := by decide +kernel
theorem dX0_performText_14 : decode cX0_performText 14 = .ok (.aload_n 1, 1) := by decide +kernel
theorem dX0_performText_15 : decode cX0_performText 15 = .ok (.getfield 15, 3) := by decide +kernel
theorem dX0_performText_18 : decode cX0_performText 18 = .ok (.tableswitch 123 99 112 #[70, 117, 98, 123, 123, 111, 123, 123, 123, 123, 77, 123, 84, 91], 70) := by decide +kernel
theorem dX0_performText_88 : decode cX0_performText 88 = .ok (.aload_n 0, 1) := by decide +kernel
theorem dX0_performText_89 : decode cX0_performText 89 = .ok (.iload_n 2, 1) := by decide +kernel
theorem dX0_performText_90 : decode cX0_performText 90 = .ok (.iload_n 3, 1) := by decide +kernel
theorem dX0_performText_91 : decode cX0_performText 91 = .ok (.invokevirtual 19, 3) := by decide +kernel
theorem dX0_performText_94 : decode cX0_performText 94 = .ok (.ireturn, 1) := by decide +kernel
theorem dX0_performText_95 : decode cX0_performText 95 = .ok (.aload_n 0, 1) := by decide +kernel
theorem dX0_performText_96 : decode cX0_performText 96 = .ok (.iload_n 2, 1) := by decide +kernel
theorem dX0_performText_97 : decode cX0_performText 97 = .ok (.iload_n 3, 1) := by decide +kernel
theorem dX0_performText_98 : decode cX0_performText 98 = .ok (.invokevirtual 25, 3) := by decide +kernel
theorem dX0_performText_101 : decode cX0_performText 101 = .ok (.ireturn, 1) := by decide +kernel
theorem dX0_performText_102 : decode cX0_performText 102 = .ok (.aload_n 0, 1) := by decide +kernel
theorem dX0_performText_103 : decode cX0_performText 103 = .ok (.iload_n 2, 1) := by decide +kernel
theorem dX0_performText_104 : decode cX0_performText 104 = .ok (.iload_n 3, 1) := by decide +kernel
theorem dX0_performText_105 : decode cX0_performText 105 = .ok (.invokevirtual 28, 3) := by decide +kernel
theorem dX0_performText_108 : decode cX0_performText 108 = .ok (.ireturn, 1) := by decide +kernel
theorem dX0_performText_109 : decode cX0_performText 109 = .ok (.aload_n 0, 1) := by decide +kernel
theorem dX0_performText_110 : decode cX0_performText 110 = .ok (.iload_n 2, 1) := by decide +kernel
theorem dX0_performText_111 : decode cX0_performText 111 = .ok (.iload_n 3, 1) := by decide +kernel
theorem dX0_performText_112 : decode cX0_performText 112 = .ok (.invokevirtual 31, 3) := by decide +kernel
theorem dX0_performText_115 : decode cX0_performText 115 = .ok (.ireturn, 1) := by decide +kernel
theorem dX0_performText_116 : decode cX0_performText 116 = .ok (.aload_n 0, 1) := by decide +kernel
theorem dX0_performText_117 : decode cX0_performText 117 = .ok (.iload_n 2, 1) := by decide +kernel
theorem dX0_performText_118 : decode cX0_performText 118 = .ok (.iload_n 3, 1) := by decide +kernel
theorem dX0_performText_119 : decode cX0_performText 119 = .ok (.aload_n 1, 1) := by decide +kernel
theorem dX0_performText_120 : decode cX0_performText 120 = .ok (.getfield 9, 3) := by decide +kernel
theorem dX0_performText_123 : decode cX0_performText 123 = .ok (.iconst 2, 1) := by decide +kernel
theorem dX0_performText_124 : decode cX0_performText 124 = .ok (.iaload, 1) := by decide +kernel
theorem dX0_performText_125 : decode cX0_performText 125 = .ok (.invokevirtual 34, 3) := by decide +kernel
theorem dX0_performText_128 : decode cX0_performText 128 = .ok (.ireturn, 1) := by decide +kernel
theorem dX0_performText_129 : decode cX0_performText 129 = .ok (.aload_n 0, 1) := by decide +kernel
theorem dX0_performText_130 : decode cX0_performText 130 = .ok (.iload_n 2, 1) := by decide +kernel
theorem dX0_performText_131 : decode cX0_performText 131 = .ok (.invokevirtual 38, 3) := by decide +kernel
theorem dX0_performText_134 : decode cX0_performText 134 = .ok (.ireturn, 1) := by decide +kernel
theorem dX0_performText_135 : decode cX0_performText 135 = .ok (.aload_n 0, 1) := by decide +kernel
theorem dX0_performText_136 : decode cX0_performText 136 = .ok (.iload_n 2, 1) := by decide +kernel
theorem dX0_performText_137 : decode cX0_performText 137 = .ok (.invokevirtual 42, 3) := by decide +kernel
theorem dX0_performText_140 : decode cX0_performText 140 = .ok (.ireturn, 1) := by decide +kernel
theorem dX0_performText_141 : decode cX0_performText 141 = .ok (.iconst 0, 1) := by decide +kernel
theorem dX0_performText_142 : decode cX0_performText 142 = .ok (.ireturn, 1) := by decide +kernel
theorem dX0_withoutLastGroups_0 : decode cX0_withoutLastGroups 0 = .ok (.lload_n 0, 1) := by decide +kernel
theorem dX0_withoutLastGroups_1 : decode cX0_withoutLastGroups 1 = .ok (.lstore_n 3, 1) := by decide +kernel
theorem dX0_withoutLastGroups_2 : decode cX0_withoutLastGroups 2 = .ok (.iconst 0, 1) := by decide +kernel
theorem dX0_withoutLastGroups_3 : decode cX0_withoutLastGroups 3 = .ok (.istore 5, 2) := by decide +kernel
theorem dX0_withoutLastGroups_5 : decode cX0_withoutLastGroups 5 = .ok (.iload 5, 2) := by decide +kernel
theorem dX0_withoutLastGroups_7 : decode cX0_withoutLastGroups 7 = .ok (.iload_n 2, 1) := by decide +kernel
theorem dX0_withoutLastGroups_8 : decode cX0_withoutLastGroups 8 = .ok (.if_icmp .ge 15, 3) := by decide +kernel
theorem dX0_withoutLastGroups_11 : decode cX0_withoutLastGroups 11 = .ok (.lload_n 3, 1) := by decide +kernel
theorem dX0_withoutLastGroups_12 : decode cX0_withoutLastGroups 12 = .ok (.ldc2_w 47, 3) := by decide +kernel
theorem dX0_withoutLastGroups_15 : decode cX0_withoutLastGroups 15 = .ok (.ldiv, 1) := by decide +kernel
theorem dX0_withoutLastGroups_16 : decode cX0_withoutLastGroups 16 = .ok (.lstore_n 3, 1) := by decide +kernel
theorem dX0_withoutLastGroups_17 : decode cX0_withoutLastGroups 17 = .ok (.iinc 5 1, 3) := by decide +kernel
theorem dX0_withoutLastGroups_20 : decode cX0_withoutLastGroups 20 = .ok (.goto (-15), 3) := by decide +kernel
theorem dX0_withoutLastGroups_23 : decode cX0_withoutLastGroups 23 = .ok (.lload_n 3, 1) := by decide +kernel
theorem dX0_withoutLastGroups_24 : decode cX0_withoutLastGroups 24 = .ok (.lreturn, 1) := by decide +kernel
set_option maxRecDepth 20000 in
theorem ggX0_performGroup_X2_tryOrder : GoodIn wsX0_performGroup wsX2_tryOrder := goodIn_r _ [7, 8, 9, 10, 6, 11, 12, 13, 14, 15, 16, 17, 18, 19, 20, 21, 22, 23, 24, 25, 26, 27, 28, 29, 30, 31, 32, 33, 34, 35, 36, 37, 38, 39, 40, 41, 42, 43, 44, 45, 46, 190, 191, 192, 193, 194, 195, 196, 197, 198, 199, 200, 201, 202, 203, 204, 205, 206] (by decide +kernel) (by decide +kernel)
set_option maxRecDepth 20000 in
theorem gX0_performGroup_X2_tryOrder : GoodIn wsX0_performGroup (wsV RX0 50 RX2 yX2_tryOrder wsX2_tryOrder) := goodIn_app (goodIn_of _ (by decide +kernel)) ggX0_performGroup_X2_tryOrder
set_option maxRecDepth 20000 in
theorem ggX0_performGroup_X2_tryPay : GoodIn wsX0_performGroup wsX2_tryPay := goodIn_r _ [50, 51, 52, 53, 6, 54, 55, 13, 14, 15, 16, 17, 56, 57, 58, 59, 60, 190, 191, 192, 193, 194, 195, 196, 197, 198, 199, 200, 201, 202, 203] (by decide +kernel) (by decide +kernel)
set_option maxRecDepth 20000 in
theorem gX0_performGroup_X2_tryPay : GoodIn wsX0_performGroup (wsV RX0 31 RX2 yX2_tryPay wsX2_tryPay) := goodIn_app (goodIn_of _ (by decide +kernel)) ggX0_performGroup_X2_tryPay
set_option maxRecDepth 20000 in
theorem ggX0_performGroup_X2_tryEntitle : GoodIn wsX0_performGroup wsX2_tryEntitle := goodIn_r _ [64, 65, 66, 67, 6, 68, 13, 14, 15, 16, 17, 18, 19, 20, 69, 70, 71, 72, 73, 74, 12, 75, 76, 77, 78, 55, 79, 80, 81, 82, 25, 83, 84, 85, 86, 29, 87, 31, 88, 32, 33, 34, 89, 90, 91, 92, 93, 94, 95, 96, 97, 26, 27, 28, 30, 98, 44, 45, 46, 99, 100, 101, 102, 190, 191, 192, 193, 194, 195, 196, 197, 198, 199, 200, 201, 202, 203, 204, 205, 206] (by decide +kernel) (by decide +kernel)
set_option maxRecDepth 20000 in
theorem gX0_performGroup_X2_tryEntitle : GoodIn wsX0_performGroup (wsV RX0 34 RX2 yX2_tryEntitle wsX2_tryEntitle) := goodIn_app (goodIn_of _ (by decide +kernel)) ggX0_performGroup_X2_tryEntitle
set_option maxRecDepth 20000 in
theorem ggX0_performGroup_X2_tryShare : GoodIn wsX0_performGroup wsX2_tryShare := goodIn_r _ [106, 107, 108, 109, 6, 110, 111, 19, 112, 113, 114, 115, 116, 117, 118, 119, 120, 121, 17, 122, 55, 190, 191, 192, 193, 194, 195, 196, 197, 198, 199, 200, 201, 202, 203] (by decide +kernel) (by decide +kernel)
set_option maxRecDepth 20000 in
theorem gX0_performGroup_X2_tryShare : GoodIn wsX0_performGroup (wsV RX0 54 RX2 yX2_tryShare wsX2_tryShare) := goodIn_app (goodIn_of _ (by decide +kernel)) ggX0_performGroup_X2_tryShare
set_option maxRecDepth 20000 in
theorem ggX0_performGroup_X2_tryWriteOff : GoodIn wsX0_performGroup wsX2_tryWriteOff := goodIn_r _ [126, 127, 128, 129, 6, 130, 111, 19, 112, 131, 132, 133, 134, 17, 122, 55, 135, 136, 137, 138, 139, 190, 191, 192, 193, 194, 195, 196, 197, 198, 199, 200, 201, 202, 203] (by decide +kernel) (by decide +kernel)
set_option maxRecDepth 20000 in
theorem gX0_performGroup_X2_tryWriteOff : GoodIn wsX0_performGroup (wsV RX0 58 RX2 yX2_tryWriteOff wsX2_tryWriteOff) := goodIn_app (goodIn_of _ (by decide +kernel)) ggX0_performGroup_X2_tryWriteOff
set_option maxRecDepth 20000 in
theorem ggX0_performGroup_X2_tryDays : GoodIn wsX0_performGroup wsX2_tryDays := goodIn_r _ [143, 144, 145, 146, 6, 147, 148, 149, 150, 151, 12, 152, 153, 154, 155, 17, 25, 98, 44, 45, 29, 46, 31, 32, 33, 34, 156, 157, 158, 159, 55, 83, 160, 161, 162, 163, 164, 117, 122, 165, 166, 167, 168, 169, 170, 89, 90, 91, 92, 73, 74, 171, 172, 173, 174, 175, 176, 177, 178, 26, 27, 28, 30, 99, 100, 101, 102, 97, 88, 190, 191, 192, 193, 194, 195, 196, 197, 198, 199, 200, 201, 202, 203, 204, 205, 206] (by decide +kernel) (by decide +kernel)
set_option maxRecDepth 20000 in
theorem gX0_performGroup_X2_tryDays : GoodIn wsX0_performGroup (wsV RX0 42 RX2 yX2_tryDays wsX2_tryDays) := goodIn_app (goodIn_of _ (by decide +kernel)) ggX0_performGroup_X2_tryDays
set_option maxRecDepth 20000 in
theorem ggX0_performGroup_X2_hasChild : GoodIn wsX0_performGroup wsX2_hasChild := goodIn_r _ [16, 17, 190, 191, 192, 193, 194, 195, 196, 197, 198, 199, 200, 201, 202, 203] (by decide +kernel) (by decide +kernel)
set_option maxRecDepth 20000 in
theorem gX0_performGroup_X2_hasChild : GoodIn wsX0_performGroup (wsV RX0 61 RX2 yX2_hasChild wsX2_hasChild) := goodIn_app (goodIn_of _ (by decide +kernel)) ggX0_performGroup_X2_hasChild
set_option maxRecDepth 20000 in
theorem ggX0_performGroup_X5_isDay : GoodIn wsX0_performGroup wsX5_isDay := goodIn_r _ [20] (by decide +kernel) (by decide +kernel)
set_option maxRecDepth 20000 in
theorem gX0_performGroup_X5_isDay_n64 : GoodIn wsX0_performGroup (wsX5_isDay) := ggX0_performGroup_X5_isDay
set_option maxRecDepth 20000 in
theorem ggX0_performGroup_X3_kindOf : GoodIn wsX0_performGroup wsX3_kindOf := goodIn_r _ [46, 31, 32, 33, 29, 34, 204, 205, 206] (by decide +kernel) (by decide +kernel)
set_option maxRecDepth 20000 in
theorem gX0_performGroup_X3_kindOf : GoodIn wsX0_performGroup (wsV RX0 71 RX3 yX3_kindOf wsX3_kindOf) := goodIn_app (goodIn_of _ (by decide +kernel)) ggX0_performGroup_X3_kindOf
set_option maxRecDepth 20000 in
theorem ggX0_performGroup_X5_isFamily : GoodIn wsX0_performGroup wsX5_isFamily := goodIn_r _ [112] (by decide +kernel) (by decide +kernel)
set_option maxRecDepth 20000 in
theorem gX0_performGroup_X5_isFamily_n77 : GoodIn wsX0_performGroup (wsX5_isFamily) := ggX0_performGroup_X5_isFamily
set_option maxRecDepth 20000 in
theorem ggX0_performGroup_X2_debtOf : GoodIn wsX0_performGroup wsX2_debtOf := goodIn_r _ [134, 17, 122, 55, 190, 191, 192, 193, 194, 195, 196, 197, 198, 199, 200, 201, 202, 203] (by decide +kernel) (by decide +kernel)
set_option maxRecDepth 20000 in
theorem gX0_performGroup_X2_debtOf : GoodIn wsX0_performGroup (wsV RX0 80 RX2 yX2_debtOf wsX2_debtOf) := goodIn_app (goodIn_of _ (by decide +kernel)) ggX0_performGroup_X2_debtOf
set_option maxRecDepth 20000 in
theorem ggX0_performGroup_X3_countServed : GoodIn wsX0_performGroup wsX3_countServed := goodIn_r _ [185, 186, 187, 188, 29, 189, 31, 204, 205, 206] (by decide +kernel) (by decide +kernel)
set_option maxRecDepth 20000 in
theorem gX0_performGroup_X3_countServed : GoodIn wsX0_performGroup (wsV RX0 84 RX3 yX3_countServed wsX3_countServed) := goodIn_app (goodIn_of _ (by decide +kernel)) ggX0_performGroup_X3_countServed
theorem dX0_performGroup_0 : decode cX0_performGroup 0 = .ok (.iload_n 1, 1) := by decide +kernel
theorem dX0_performGroup_1 : decode cX0_performGroup 1 = .ok (.sipush 1000, 3) := by decide +kernel
theorem dX0_performGroup_4 : decode cX0_performGroup 4 = .ok (.idiv, 1) := by decide +kernel
theorem dX0_performGroup_5 : decode cX0_performGroup 5 = .ok (.bipush 100, 2) := by decide +kernel
theorem dX0_performGroup_7 : decode cX0_performGroup 7 = .ok (.irem, 1) := by decide +kernel
theorem dX0_performGroup_8 : decode cX0_performGroup 8 = .ok (.istore_n 2, 1) := by decide +kernel
theorem dX0_performGroup_9 : decode cX0_performGroup 9 = .ok (.iload_n 1, 1) := by decide +kernel
theorem dX0_performGroup_10 : decode cX0_performGroup 10 = .ok (.bipush 10, 2) := by decide +kernel
theorem dX0_performGroup_12 : decode cX0_performGroup 12 = .ok (.idiv, 1) := by decide +kernel
theorem dX0_performGroup_13 : decode cX0_performGroup 13 = .ok (.bipush 100, 2) := by decide +kernel
theorem dX0_performGroup_15 : decode cX0_performGroup 15 = .ok (.irem, 1) := by decide +kernel
theorem dX0_performGroup_16 : decode cX0_performGroup 16 = .ok (.istore_n 3, 1) := by decide +kernel
theorem dX0_performGroup_17 : decode cX0_performGroup 17 = .ok (.iload_n 1, 1) := by decide +kernel
theorem dX0_performGroup_18 : decode cX0_performGroup 18 = .ok (.sipush 10000, 3) := by decide +kernel
theorem dX0_performGroup_21 : decode cX0_performGroup 21 = .ok (.idiv, 1) := by decide +kernel
theorem dX0_performGroup_22 : decode cX0_performGroup 22 = .ok (.bipush 10, 2) := by decide +kernel
theorem dX0_performGroup_24 : decode cX0_performGroup 24 = .ok (.irem, 1) := by decide +kernel
theorem dX0_performGroup_25 : decode cX0_performGroup 25 = .ok (.istore 4, 2) := by decide +kernel
theorem dX0_performGroup_27 : decode cX0_performGroup 27 = .ok (.iload_n 1, 1) := by decide +kernel
theorem dX0_performGroup_28 : decode cX0_performGroup 28 = .ok (.bipush 10, 2) := by decide +kernel
theorem dX0_performGroup_30 : decode cX0_performGroup 30 = .ok (.irem, 1) := by decide +kernel
theorem dX0_performGroup_31 : decode cX0_performGroup 31 = .ok (.istore 5, 2) := by decide +kernel
theorem dX0_performGroup_33 : decode cX0_performGroup 33 = .ok (.iload_n 1, 1) := by decide +kernel
theorem dX0_performGroup_34 : decode cX0_performGroup 34 = .ok (.ldc 49, 2) := by decide +kernel
theorem dX0_performGroup_36 : decode cX0_performGroup 36 = .ok (.idiv, 1) := by decide +kernel
theorem dX0_performGroup_37 : decode cX0_performGroup 37 = .ok (.tableswitch 314 1 9 #[51, 83, 94, 115, 158, 181, 209, 244, 283], 51) := by decide +kernel
theorem dX0_performGroup_88 : decode cX0_performGroup 88 = .ok (.iload 5, 2) := by decide +kernel
theorem dX0_performGroup_90 : decode cX0_performGroup 90 = .ok (.iconst 1, 1) := by decide +kernel
theorem dX0_performGroup_91 : decode cX0_performGroup 91 = .ok (.if_icmp .gt 27, 3) := by decide +kernel
theorem dX0_performGroup_94 : decode cX0_performGroup 94 = .ok (.aload_n 0, 1) := by decide +kernel
theorem dX0_performGroup_95 : decode cX0_performGroup 95 = .ok (.iload_n 2, 1) := by decide +kernel
theorem dX0_performGroup_96 : decode cX0_performGroup 96 = .ok (.iload_n 3, 1) := by decide +kernel
theorem dX0_performGroup_97 : decode cX0_performGroup 97 = .ok (.iload 5, 2) := by decide +kernel
theorem dX0_performGroup_99 : decode cX0_performGroup 99 = .ok (.iconst 1, 1) := by decide +kernel
theorem dX0_performGroup_100 : decode cX0_performGroup 100 = .ok (.if_icmp .ne 7, 3) := by decide +kernel
theorem dX0_performGroup_103 : decode cX0_performGroup 103 = .ok (.iconst 1, 1) := by decide +kernel
theorem dX0_performGroup_104 : decode cX0_performGroup 104 = .ok (.goto 4, 3) := by decide +kernel
theorem dX0_performGroup_107 : decode cX0_performGroup 107 = .ok (.iconst 0, 1) := by decide +kernel
theorem dX0_performGroup_108 : decode cX0_performGroup 108 = .ok (.invokevirtual 50, 3) := by decide +kernel
theorem dX0_performGroup_111 : decode cX0_performGroup 111 = .ok (.ifCond .eq 7, 3) := by decide +kernel
theorem dX0_performGroup_114 : decode cX0_performGroup 114 = .ok (.iconst 1, 1) := by decide +kernel
theorem dX0_performGroup_115 : decode cX0_performGroup 115 = .ok (.goto 4, 3) := by decide +kernel
theorem dX0_performGroup_118 : decode cX0_performGroup 118 = .ok (.iconst 0, 1) := by decide +kernel
theorem dX0_performGroup_119 : decode cX0_performGroup 119 = .ok (.ireturn, 1) := by decide +kernel
theorem dX0_performGroup_120 : decode cX0_performGroup 120 = .ok (.aload_n 0, 1) := by decide +kernel
theorem dX0_performGroup_121 : decode cX0_performGroup 121 = .ok (.iload_n 2, 1) := by decide +kernel
theorem dX0_performGroup_122 : decode cX0_performGroup 122 = .ok (.iload_n 1, 1) := by decide +kernel
theorem dX0_performGroup_123 : decode cX0_performGroup 123 = .ok (.sipush 1000, 3) := by decide +kernel
theorem dX0_performGroup_126 : decode cX0_performGroup 126 = .ok (.irem, 1) := by decide +kernel
theorem dX0_performGroup_127 : decode cX0_performGroup 127 = .ok (.invokevirtual 31, 3) := by decide +kernel
theorem dX0_performGroup_130 : decode cX0_performGroup 130 = .ok (.ireturn, 1) := by decide +kernel
theorem dX0_performGroup_131 : decode cX0_performGroup 131 = .ok (.iload 5, 2) := by decide +kernel
theorem dX0_performGroup_133 : decode cX0_performGroup 133 = .ok (.ifCond .ne 17, 3) := by decide +kernel
theorem dX0_performGroup_136 : decode cX0_performGroup 136 = .ok (.aload_n 0, 1) := by decide +kernel
theorem dX0_performGroup_137 : decode cX0_performGroup 137 = .ok (.iload_n 2, 1) := by decide +kernel
theorem dX0_performGroup_138 : decode cX0_performGroup 138 = .ok (.iconst 0, 1) := by decide +kernel
theorem dX0_performGroup_139 : decode cX0_performGroup 139 = .ok (.iload_n 3, 1) := by decide +kernel
theorem dX0_performGroup_140 : decode cX0_performGroup 140 = .ok (.invokevirtual 34, 3) := by decide +kernel
theorem dX0_performGroup_143 : decode cX0_performGroup 143 = .ok (.ifCond .eq 7, 3) := by decide +kernel
theorem dX0_performGroup_146 : decode cX0_performGroup 146 = .ok (.iconst 1, 1) := by decide +kernel
theorem dX0_performGroup_147 : decode cX0_performGroup 147 = .ok (.goto 4, 3) := by decide +kernel
theorem dX0_performGroup_150 : decode cX0_performGroup 150 = .ok (.iconst 0, 1) := by decide +kernel
theorem dX0_performGroup_151 : decode cX0_performGroup 151 = .ok (.ireturn, 1) := by decide +kernel
theorem dX0_performGroup_152 : decode cX0_performGroup 152 = .ok (.iload_n 1, 1) := by decide +kernel
theorem dX0_performGroup_153 : decode cX0_performGroup 153 = .ok (.bipush 10, 2) := by decide +kernel
theorem dX0_performGroup_155 : decode cX0_performGroup 155 = .ok (.idiv, 1) := by decide +kernel
theorem dX0_performGroup_156 : decode cX0_performGroup 156 = .ok (.sipush 1000, 3) := by decide +kernel
theorem dX0_performGroup_159 : decode cX0_performGroup 159 = .ok (.irem, 1) := by decide +kernel
theorem dX0_performGroup_160 : decode cX0_performGroup 160 = .ok (.ifCond .ne 33, 3) := by decide +kernel
theorem dX0_performGroup_163 : decode cX0_performGroup 163 = .ok (.iload 5, 2) := by decide +kernel
theorem dX0_performGroup_165 : decode cX0_performGroup 165 = .ok (.iconst 1, 1) := by decide +kernel
theorem dX0_performGroup_166 : decode cX0_performGroup 166 = .ok (.if_icmp .gt 27, 3) := by decide +kernel
theorem dX0_performGroup_169 : decode cX0_performGroup 169 = .ok (.aload_n 0, 1) := by decide +kernel
theorem dX0_performGroup_170 : decode cX0_performGroup 170 = .ok (.iload 4, 2) := by decide +kernel
theorem dX0_performGroup_172 : decode cX0_performGroup 172 = .ok (.iload 5, 2) := by decide +kernel
theorem dX0_performGroup_174 : decode cX0_performGroup 174 = .ok (.iconst 1, 1) := by decide +kernel
theorem dX0_performGroup_175 : decode cX0_performGroup 175 = .ok (.if_icmp .ne 7, 3) := by decide +kernel
theorem dX0_performGroup_178 : decode cX0_performGroup 178 = .ok (.iconst 1, 1) := by decide +kernel
theorem dX0_performGroup_179 : decode cX0_performGroup 179 = .ok (.goto 4, 3) := by decide +kernel
theorem dX0_performGroup_182 : decode cX0_performGroup 182 = .ok (.iconst 0, 1) := by decide +kernel
theorem dX0_performGroup_183 : decode cX0_performGroup 183 = .ok (.invokevirtual 54, 3) := by decide +kernel
theorem dX0_performGroup_186 : decode cX0_performGroup 186 = .ok (.ifCond .eq 7, 3) := by decide +kernel
theorem dX0_performGroup_189 : decode cX0_performGroup 189 = .ok (.iconst 1, 1) := by decide +kernel
theorem dX0_performGroup_190 : decode cX0_performGroup 190 = .ok (.goto 4, 3) := by decide +kernel
theorem dX0_performGroup_193 : decode cX0_performGroup 193 = .ok (.iconst 0, 1) := by decide +kernel
theorem dX0_performGroup_194 : decode cX0_performGroup 194 = .ok (.ireturn, 1) := by decide +kernel
theorem dX0_performGroup_195 : decode cX0_performGroup 195 = .ok (.iload_n 1, 1) := by decide +kernel
theorem dX0_performGroup_196 : decode cX0_performGroup 196 = .ok (.sipush 10000, 3) := by decide +kernel
theorem dX0_performGroup_199 : decode cX0_performGroup 199 = .ok (.irem, 1) := by decide +kernel
theorem dX0_performGroup_200 : decode cX0_performGroup 200 = .ok (.ifCond .ne 16, 3) := by decide +kernel
theorem dX0_performGroup_203 : decode cX0_performGroup 203 = .ok (.aload_n 0, 1) := by decide +kernel
theorem dX0_performGroup_204 : decode cX0_performGroup 204 = .ok (.iload 4, 2) := by decide +kernel
theorem dX0_performGroup_206 : decode cX0_performGroup 206 = .ok (.invokevirtual 58, 3) := by decide +kernel
theorem dX0_performGroup_209 : decode cX0_performGroup 209 = .ok (.ifCond .eq 7, 3) := by decide +kernel
theorem dX0_performGroup_212 : decode cX0_performGroup 212 = .ok (.iconst 1, 1) := by decide +kernel
theorem dX0_performGroup_213 : decode cX0_performGroup 213 = .ok (.goto 4, 3) := by decide +kernel
theorem dX0_performGroup_216 : decode cX0_performGroup 216 = .ok (.iconst 0, 1) := by decide +kernel
theorem dX0_performGroup_217 : decode cX0_performGroup 217 = .ok (.ireturn, 1) := by decide +kernel
theorem dX0_performGroup_218 : decode cX0_performGroup 218 = .ok (.iload_n 1, 1) := by decide +kernel
theorem dX0_performGroup_219 : decode cX0_performGroup 219 = .ok (.bipush 100, 2) := by decide +kernel
theorem dX0_performGroup_221 : decode cX0_performGroup 221 = .ok (.idiv, 1) := by decide +kernel
theorem dX0_performGroup_222 : decode cX0_performGroup 222 = .ok (.sipush 1000, 3) := by decide +kernel
theorem dX0_performGroup_225 : decode cX0_performGroup 225 = .ok (.irem, 1) := by decide +kernel
theorem dX0_performGroup_226 : decode cX0_performGroup 226 = .ok (.ifCond .ne 18, 3) := by decide +kernel
theorem dX0_performGroup_229 : decode cX0_performGroup 229 = .ok (.aload_n 0, 1) := by decide +kernel
theorem dX0_performGroup_230 : decode cX0_performGroup 230 = .ok (.iload_n 1, 1) := by decide +kernel
theorem dX0_performGroup_231 : decode cX0_performGroup 231 = .ok (.bipush 100, 2) := by decide +kernel
theorem dX0_performGroup_233 : decode cX0_performGroup 233 = .ok (.irem, 1) := by decide +kernel
theorem dX0_performGroup_234 : decode cX0_performGroup 234 = .ok (.invokevirtual 42, 3) := by decide +kernel
theorem dX0_performGroup_237 : decode cX0_performGroup 237 = .ok (.ifCond .eq 7, 3) := by decide +kernel
theorem dX0_performGroup_240 : decode cX0_performGroup 240 = .ok (.iconst 1, 1) := by decide +kernel
theorem dX0_performGroup_241 : decode cX0_performGroup 241 = .ok (.goto 4, 3) := by decide +kernel
theorem dX0_performGroup_244 : decode cX0_performGroup 244 = .ok (.iconst 0, 1) := by decide +kernel
theorem dX0_performGroup_245 : decode cX0_performGroup 245 = .ok (.ireturn, 1) := by decide +kernel
theorem dX0_performGroup_246 : decode cX0_performGroup 246 = .ok (.aload_n 0, 1) := by decide +kernel
theorem dX0_performGroup_247 : decode cX0_performGroup 247 = .ok (.iload_n 2, 1) := by decide +kernel
theorem dX0_performGroup_248 : decode cX0_performGroup 248 = .ok (.invokevirtual 61, 3) := by decide +kernel
theorem dX0_performGroup_251 : decode cX0_performGroup 251 = .ok (.ifCond .eq 28, 3) := by decide +kernel
theorem dX0_performGroup_254 : decode cX0_performGroup 254 = .ok (.iload_n 3, 1) := by decide +kernel
theorem dX0_performGroup_255 : decode cX0_performGroup 255 = .ok (.invokestatic 64, 3) := by decide +kernel
theorem dX0_performGroup_258 : decode cX0_performGroup 258 = .ok (.ifCond .eq 21, 3) := by decide +kernel
theorem dX0_performGroup_261 : decode cX0_performGroup 261 = .ok (.aload_n 0, 1) := by decide +kernel
theorem dX0_performGroup_262 : decode cX0_performGroup 262 = .ok (.getfield 67, 3) := by decide +kernel
theorem dX0_performGroup_265 : decode cX0_performGroup 265 = .ok (.iload_n 2, 1) := by decide +kernel
theorem dX0_performGroup_266 : decode cX0_performGroup 266 = .ok (.iload_n 3, 1) := by decide +kernel
theorem dX0_performGroup_267 : decode cX0_performGroup 267 = .ok (.invokevirtual 71, 3) := by decide +kernel
theorem dX0_performGroup_270 : decode cX0_performGroup 270 = .ok (.iload 5, 2) := by decide +kernel
theorem dX0_performGroup_272 : decode cX0_performGroup 272 = .ok (.if_icmp .ne 7, 3) := by decide +kernel
theorem dX0_performGroup_275 : decode cX0_performGroup 275 = .ok (.iconst 1, 1) := by decide +kernel
theorem dX0_performGroup_276 : decode cX0_performGroup 276 = .ok (.goto 4, 3) := by decide +kernel
theorem dX0_performGroup_279 : decode cX0_performGroup 279 = .ok (.iconst 0, 1) := by decide +kernel
theorem dX0_performGroup_280 : decode cX0_performGroup 280 = .ok (.ireturn, 1) := by decide +kernel
theorem dX0_performGroup_281 : decode cX0_performGroup 281 = .ok (.iload 5, 2) := by decide +kernel
theorem dX0_performGroup_283 : decode cX0_performGroup 283 = .ok (.ifCond .ne 35, 3) := by decide +kernel
theorem dX0_performGroup_286 : decode cX0_performGroup 286 = .ok (.iload 4, 2) := by decide +kernel
theorem dX0_performGroup_288 : decode cX0_performGroup 288 = .ok (.invokestatic 77, 3) := by decide +kernel
theorem dX0_performGroup_291 : decode cX0_performGroup 291 = .ok (.ifCond .eq 27, 3) := by decide +kernel
theorem dX0_performGroup_294 : decode cX0_performGroup 294 = .ok (.aload_n 0, 1) := by decide +kernel
theorem dX0_performGroup_295 : decode cX0_performGroup 295 = .ok (.iload 4, 2) := by decide +kernel
theorem dX0_performGroup_297 : decode cX0_performGroup 297 = .ok (.invokevirtual 80, 3) := by decide +kernel
theorem dX0_performGroup_300 : decode cX0_performGroup 300 = .ok (.iload_n 1, 1) := by decide +kernel
theorem dX0_performGroup_301 : decode cX0_performGroup 301 = .ok (.bipush 10, 2) := by decide +kernel
theorem dX0_performGroup_303 : decode cX0_performGroup 303 = .ok (.idiv, 1) := by decide +kernel
theorem dX0_performGroup_304 : decode cX0_performGroup 304 = .ok (.sipush 1000, 3) := by decide +kernel
theorem dX0_performGroup_307 : decode cX0_performGroup 307 = .ok (.irem, 1) := by decide +kernel
theorem dX0_performGroup_308 : decode cX0_performGroup 308 = .ok (.bipush 10, 2) := by decide +kernel
theorem dX0_performGroup_310 : decode cX0_performGroup 310 = .ok (.imul, 1) := by decide +kernel
theorem dX0_performGroup_311 : decode cX0_performGroup 311 = .ok (.if_icmp .gt 7, 3) := by decide +kernel
theorem dX0_performGroup_314 : decode cX0_performGroup 314 = .ok (.iconst 1, 1) := by decide +kernel
theorem dX0_performGroup_315 : decode cX0_performGroup 315 = .ok (.goto 4, 3) := by decide +kernel
theorem dX0_performGroup_318 : decode cX0_performGroup 318 = .ok (.iconst 0, 1) := by decide +kernel
theorem dX0_performGroup_319 : decode cX0_performGroup 319 = .ok (.ireturn, 1) := by decide +kernel
theorem dX0_performGroup_320 : decode cX0_performGroup 320 = .ok (.iload_n 1, 1) := by decide +kernel
theorem dX0_performGroup_321 : decode cX0_performGroup 321 = .ok (.bipush 100, 2) := by decide +kernel
theorem dX0_performGroup_323 : decode cX0_performGroup 323 = .ok (.idiv, 1) := by decide +kernel
theorem dX0_performGroup_324 : decode cX0_performGroup 324 = .ok (.sipush 1000, 3) := by decide +kernel
theorem dX0_performGroup_327 : decode cX0_performGroup 327 = .ok (.irem, 1) := by decide +kernel
theorem dX0_performGroup_328 : decode cX0_performGroup 328 = .ok (.ifCond .ne 21, 3) := by decide +kernel
theorem dX0_performGroup_331 : decode cX0_performGroup 331 = .ok (.aload_n 0, 1) := by decide +kernel
theorem dX0_performGroup_332 : decode cX0_performGroup 332 = .ok (.getfield 67, 3) := by decide +kernel
theorem dX0_performGroup_335 : decode cX0_performGroup 335 = .ok (.invokevirtual 84, 3) := by decide +kernel
theorem dX0_performGroup_338 : decode cX0_performGroup 338 = .ok (.iload_n 1, 1) := by decide +kernel
theorem dX0_performGroup_339 : decode cX0_performGroup 339 = .ok (.bipush 100, 2) := by decide +kernel
theorem dX0_performGroup_341 : decode cX0_performGroup 341 = .ok (.irem, 1) := by decide +kernel
theorem dX0_performGroup_342 : decode cX0_performGroup 342 = .ok (.if_icmp .lt 7, 3) := by decide +kernel
theorem dX0_performGroup_345 : decode cX0_performGroup 345 = .ok (.iconst 1, 1) := by decide +kernel
theorem dX0_performGroup_346 : decode cX0_performGroup 346 = .ok (.goto 4, 3) := by decide +kernel
theorem dX0_performGroup_349 : decode cX0_performGroup 349 = .ok (.iconst 0, 1) := by decide +kernel
theorem dX0_performGroup_350 : decode cX0_performGroup 350 = .ok (.ireturn, 1) := by decide +kernel
theorem dX0_performGroup_351 : decode cX0_performGroup 351 = .ok (.iconst 0, 1) := by decide +kernel
theorem dX0_performGroup_352 : decode cX0_performGroup 352 = .ok (.ireturn, 1) := by decide +kernel
set_option maxRecDepth 20000 in
theorem ggX0_performTurn_X2_tryCome : GoodIn wsX0_performTurn wsX2_tryCome := goodIn_r _ [10, 11, 12, 13, 9, 14, 15, 16, 17, 18, 19, 20, 21, 22, 23, 24, 25, 26, 27, 206, 207, 208, 209, 210, 211, 212, 213, 214, 215, 216, 217, 218, 219] (by decide +kernel) (by decide +kernel)
set_option maxRecDepth 20000 in
theorem gX0_performTurn_X2_tryCome : GoodIn wsX0_performTurn (wsV RX0 19 RX2 yX2_tryCome wsX2_tryCome) := goodIn_app (goodIn_of _ (by decide +kernel)) ggX0_performTurn_X2_tryCome
set_option maxRecDepth 20000 in
theorem ggX0_performTurn_X2_tryPay : GoodIn wsX0_performTurn wsX2_tryPay := goodIn_r _ [31, 32, 33, 34, 9, 35, 25, 36, 37, 38, 39, 15, 40, 41, 42, 43, 44, 206, 207, 208, 209, 210, 211, 212, 213, 214, 215, 216, 217, 218, 219] (by decide +kernel) (by decide +kernel)
set_option maxRecDepth 20000 in
theorem gX0_performTurn_X2_tryPay : GoodIn wsX0_performTurn (wsV RX0 31 RX2 yX2_tryPay wsX2_tryPay) := goodIn_app (goodIn_of _ (by decide +kernel)) ggX0_performTurn_X2_tryPay
set_option maxRecDepth 20000 in
theorem ggX0_performTurn_X2_tryEntitle : GoodIn wsX0_performTurn wsX2_tryEntitle := goodIn_r _ [48, 49, 50, 51, 9, 52, 36, 37, 38, 39, 15, 53, 17, 54, 55, 56, 57, 58, 26, 27, 59, 60, 61, 62, 63, 25, 64, 65, 66, 67, 68, 69, 70, 71, 72, 73, 74, 75, 76, 77, 78, 79, 80, 81, 82, 83, 84, 85, 86, 87, 88, 89, 90, 91, 92, 93, 94, 95, 96, 97, 98, 99, 100, 206, 207, 208, 209, 210, 211, 212, 213, 214, 215, 216, 217, 218, 219, 220, 221, 222] (by decide +kernel) (by decide +kernel)
set_option maxRecDepth 20000 in
theorem gX0_performTurn_X2_tryEntitle : GoodIn wsX0_performTurn (wsV RX0 34 RX2 yX2_tryEntitle wsX2_tryEntitle) := goodIn_app (goodIn_of _ (by decide +kernel)) ggX0_performTurn_X2_tryEntitle
set_option maxRecDepth 20000 in
theorem ggX0_performTurn_X2_tryShare : GoodIn wsX0_performTurn wsX2_tryShare := goodIn_r _ [104, 105, 106, 107, 9, 108, 16, 17, 18, 109, 110, 111, 112, 113, 114, 115, 116, 117, 15, 23, 25, 206, 207, 208, 209, 210, 211, 212, 213, 214, 215, 216, 217, 218, 219] (by decide +kernel) (by decide +kernel)
set_option maxRecDepth 20000 in
theorem gX0_performTurn_X2_tryShare : GoodIn wsX0_performTurn (wsV RX0 54 RX2 yX2_tryShare wsX2_tryShare) := goodIn_app (goodIn_of _ (by decide +kernel)) ggX0_performTurn_X2_tryShare
set_option maxRecDepth 20000 in
theorem ggX0_performTurn_X2_tryMenu : GoodIn wsX0_performTurn wsX2_tryMenu := goodIn_r _ [121, 122, 123, 124, 9, 125, 59, 53, 17, 54, 126, 127, 128, 129, 130, 206, 207, 208, 209, 210, 211, 212, 213, 214, 215, 216, 217, 218, 219] (by decide +kernel) (by decide +kernel)
set_option maxRecDepth 20000 in
theorem gX0_performTurn_X2_tryMenu : GoodIn wsX0_performTurn (wsV RX0 25 RX2 yX2_tryMenu wsX2_tryMenu) := goodIn_app (goodIn_of _ (by decide +kernel)) ggX0_performTurn_X2_tryMenu
set_option maxRecDepth 20000 in
theorem ggX0_performTurn_X2_tryDays : GoodIn wsX0_performTurn wsX2_tryDays := goodIn_r _ [134, 135, 136, 137, 9, 138, 139, 140, 141, 142, 59, 143, 144, 145, 146, 15, 68, 93, 94, 95, 73, 96, 75, 77, 78, 79, 147, 148, 149, 150, 25, 69, 151, 152, 153, 154, 155, 113, 23, 156, 157, 158, 159, 130, 24, 80, 81, 82, 83, 26, 27, 160, 161, 162, 163, 164, 165, 166, 167, 89, 90, 91, 92, 97, 98, 99, 100, 88, 76, 206, 207, 208, 209, 210, 211, 212, 213, 214, 215, 216, 217, 218, 219, 220, 221, 222] (by decide +kernel) (by decide +kernel)
set_option maxRecDepth 20000 in
theorem gX0_performTurn_X2_tryDays : GoodIn wsX0_performTurn (wsV RX0 42 RX2 yX2_tryDays wsX2_tryDays) := goodIn_app (goodIn_of _ (by decide +kernel)) ggX0_performTurn_X2_tryDays
set_option maxRecDepth 20000 in
theorem ggX0_performTurn_X2_tryWriteOff : GoodIn wsX0_performTurn wsX2_tryWriteOff := goodIn_r _ [171, 172, 173, 174, 9, 175, 16, 17, 18, 176, 177, 178, 179, 15, 23, 25, 180, 181, 182, 183, 184, 206, 207, 208, 209, 210, 211, 212, 213, 214, 215, 216, 217, 218, 219] (by decide +kernel) (by decide +kernel)
set_option maxRecDepth 20000 in
theorem gX0_performTurn_X2_tryWriteOff : GoodIn wsX0_performTurn (wsV RX0 58 RX2 yX2_tryWriteOff wsX2_tryWriteOff) := goodIn_app (goodIn_of _ (by decide +kernel)) ggX0_performTurn_X2_tryWriteOff
set_option maxRecDepth 20000 in
theorem ggX0_performTurn_X2_tryOrder : GoodIn wsX0_performTurn wsX2_tryOrder := goodIn_r _ [188, 189, 190, 191, 9, 192, 59, 36, 37, 38, 39, 15, 53, 17, 54, 193, 194, 195, 196, 68, 89, 90, 91, 73, 92, 75, 77, 78, 79, 197, 198, 199, 200, 201, 202, 203, 204, 205, 94, 95, 96, 206, 207, 208, 209, 210, 211, 212, 213, 214, 215, 216, 217, 218, 219, 220, 221, 222] (by decide +kernel) (by decide +kernel)
set_option maxRecDepth 20000 in
theorem gX0_performTurn_X2_tryOrder : GoodIn wsX0_performTurn (wsV RX0 50 RX2 yX2_tryOrder wsX2_tryOrder) := goodIn_app (goodIn_of _ (by decide +kernel)) ggX0_performTurn_X2_tryOrder
theorem dX0_performTurn_0 : decode cX0_performTurn 0 = .ok (.iload_n 1, 1) := by decide +kernel
theorem dX0_performTurn_1 : decode cX0_performTurn 1 = .ok (.bipush 16, 2) := by decide +kernel
theorem dX0_performTurn_3 : decode cX0_performTurn 3 = .ok (.idiv, 1) := by decide +kernel
theorem dX0_performTurn_4 : decode cX0_performTurn 4 = .ok (.aload_n 0, 1) := by decide +kernel
theorem dX0_performTurn_5 : decode cX0_performTurn 5 = .ok (.getfield 88, 3) := by decide +kernel
theorem dX0_performTurn_8 : decode cX0_performTurn 8 = .ok (.iconst 1, 1) := by decide +kernel
theorem dX0_performTurn_9 : decode cX0_performTurn 9 = .ok (.invokestatic 92, 3) := by decide +kernel
theorem dX0_performTurn_12 : decode cX0_performTurn 12 = .ok (.irem, 1) := by decide +kernel
theorem dX0_performTurn_13 : decode cX0_performTurn 13 = .ok (.istore_n 2, 1) := by decide +kernel
theorem dX0_performTurn_14 : decode cX0_performTurn 14 = .ok (.iload_n 1, 1) := by decide +kernel
theorem dX0_performTurn_15 : decode cX0_performTurn 15 = .ok (.sipush 256, 3) := by decide +kernel
theorem dX0_performTurn_18 : decode cX0_performTurn 18 = .ok (.idiv, 1) := by decide +kernel
theorem dX0_performTurn_19 : decode cX0_performTurn 19 = .ok (.bipush 40, 2) := by decide +kernel
theorem dX0_performTurn_21 : decode cX0_performTurn 21 = .ok (.irem, 1) := by decide +kernel
theorem dX0_performTurn_22 : decode cX0_performTurn 22 = .ok (.istore_n 3, 1) := by decide +kernel
theorem dX0_performTurn_23 : decode cX0_performTurn 23 = .ok (.iload_n 1, 1) := by decide +kernel
theorem dX0_performTurn_24 : decode cX0_performTurn 24 = .ok (.bipush 16, 2) := by decide +kernel
theorem dX0_performTurn_26 : decode cX0_performTurn 26 = .ok (.idiv, 1) := by decide +kernel
theorem dX0_performTurn_27 : decode cX0_performTurn 27 = .ok (.iconst 5, 1) := by decide +kernel
theorem dX0_performTurn_28 : decode cX0_performTurn 28 = .ok (.irem, 1) := by decide +kernel
theorem dX0_performTurn_29 : decode cX0_performTurn 29 = .ok (.istore 4, 2) := by decide +kernel
theorem dX0_performTurn_31 : decode cX0_performTurn 31 = .ok (.iload_n 1, 1) := by decide +kernel
theorem dX0_performTurn_32 : decode cX0_performTurn 32 = .ok (.bipush 16, 2) := by decide +kernel
theorem dX0_performTurn_34 : decode cX0_performTurn 34 = .ok (.irem, 1) := by decide +kernel
theorem dX0_performTurn_35 : decode cX0_performTurn 35 = .ok (.tableswitch 151 0 15 #[77, 151, 151, 151, 151, 151, 151, 91, 91, 108, 117, 125, 138, 138, 138, 144], 77) := by decide +kernel
theorem dX0_performTurn_112 : decode cX0_performTurn 112 = .ok (.aload_n 0, 1) := by decide +kernel
theorem dX0_performTurn_113 : decode cX0_performTurn 113 = .ok (.iload 4, 2) := by decide +kernel
theorem dX0_performTurn_115 : decode cX0_performTurn 115 = .ok (.iload_n 1, 1) := by decide +kernel
theorem dX0_performTurn_116 : decode cX0_performTurn 116 = .ok (.sipush 128, 3) := by decide +kernel
theorem dX0_performTurn_119 : decode cX0_performTurn 119 = .ok (.idiv, 1) := by decide +kernel
theorem dX0_performTurn_120 : decode cX0_performTurn 120 = .ok (.iconst 4, 1) := by decide +kernel
theorem dX0_performTurn_121 : decode cX0_performTurn 121 = .ok (.irem, 1) := by decide +kernel
theorem dX0_performTurn_122 : decode cX0_performTurn 122 = .ok (.invokevirtual 19, 3) := by decide +kernel
theorem dX0_performTurn_125 : decode cX0_performTurn 125 = .ok (.ireturn, 1) := by decide +kernel
theorem dX0_performTurn_126 : decode cX0_performTurn 126 = .ok (.aload_n 0, 1) := by decide +kernel
theorem dX0_performTurn_127 : decode cX0_performTurn 127 = .ok (.iload_n 2, 1) := by decide +kernel
theorem dX0_performTurn_128 : decode cX0_performTurn 128 = .ok (.iconst 1, 1) := by decide +kernel
theorem dX0_performTurn_129 : decode cX0_performTurn 129 = .ok (.iload_n 1, 1) := by decide +kernel
theorem dX0_performTurn_130 : decode cX0_performTurn 130 = .ok (.sipush 16384, 3) := by decide +kernel
theorem dX0_performTurn_133 : decode cX0_performTurn 133 = .ok (.idiv, 1) := by decide +kernel
theorem dX0_performTurn_134 : decode cX0_performTurn 134 = .ok (.sipush 999, 3) := by decide +kernel
theorem dX0_performTurn_137 : decode cX0_performTurn 137 = .ok (.irem, 1) := by decide +kernel
theorem dX0_performTurn_138 : decode cX0_performTurn 138 = .ok (.iadd, 1) := by decide +kernel
theorem dX0_performTurn_139 : decode cX0_performTurn 139 = .ok (.invokevirtual 31, 3) := by decide +kernel
theorem dX0_performTurn_142 : decode cX0_performTurn 142 = .ok (.ireturn, 1) := by decide +kernel
theorem dX0_performTurn_143 : decode cX0_performTurn 143 = .ok (.aload_n 0, 1) := by decide +kernel
theorem dX0_performTurn_144 : decode cX0_performTurn 144 = .ok (.iload_n 2, 1) := by decide +kernel
theorem dX0_performTurn_145 : decode cX0_performTurn 145 = .ok (.iload_n 3, 1) := by decide +kernel
theorem dX0_performTurn_146 : decode cX0_performTurn 146 = .ok (.bipush 39, 2) := by decide +kernel
theorem dX0_performTurn_148 : decode cX0_performTurn 148 = .ok (.invokevirtual 34, 3) := by decide +kernel
theorem dX0_performTurn_151 : decode cX0_performTurn 151 = .ok (.ireturn, 1) := by decide +kernel
theorem dX0_performTurn_152 : decode cX0_performTurn 152 = .ok (.aload_n 0, 1) := by decide +kernel
theorem dX0_performTurn_153 : decode cX0_performTurn 153 = .ok (.iload 4, 2) := by decide +kernel
theorem dX0_performTurn_155 : decode cX0_performTurn 155 = .ok (.iconst 1, 1) := by decide +kernel
theorem dX0_performTurn_156 : decode cX0_performTurn 156 = .ok (.invokevirtual 54, 3) := by decide +kernel
theorem dX0_performTurn_159 : decode cX0_performTurn 159 = .ok (.ireturn, 1) := by decide +kernel
theorem dX0_performTurn_160 : decode cX0_performTurn 160 = .ok (.aload_n 0, 1) := by decide +kernel
theorem dX0_performTurn_161 : decode cX0_performTurn 161 = .ok (.iload_n 3, 1) := by decide +kernel
theorem dX0_performTurn_162 : decode cX0_performTurn 162 = .ok (.iload_n 1, 1) := by decide +kernel
theorem dX0_performTurn_163 : decode cX0_performTurn 163 = .ok (.sipush 16384, 3) := by decide +kernel
theorem dX0_performTurn_166 : decode cX0_performTurn 166 = .ok (.idiv, 1) := by decide +kernel
theorem dX0_performTurn_167 : decode cX0_performTurn 167 = .ok (.iconst 4, 1) := by decide +kernel
theorem dX0_performTurn_168 : decode cX0_performTurn 168 = .ok (.irem, 1) := by decide +kernel
theorem dX0_performTurn_169 : decode cX0_performTurn 169 = .ok (.invokevirtual 25, 3) := by decide +kernel
theorem dX0_performTurn_172 : decode cX0_performTurn 172 = .ok (.ireturn, 1) := by decide +kernel
theorem dX0_performTurn_173 : decode cX0_performTurn 173 = .ok (.aload_n 0, 1) := by decide +kernel
theorem dX0_performTurn_174 : decode cX0_performTurn 174 = .ok (.iconst 1, 1) := by decide +kernel
theorem dX0_performTurn_175 : decode cX0_performTurn 175 = .ok (.invokevirtual 42, 3) := by decide +kernel
theorem dX0_performTurn_178 : decode cX0_performTurn 178 = .ok (.ireturn, 1) := by decide +kernel
theorem dX0_performTurn_179 : decode cX0_performTurn 179 = .ok (.aload_n 0, 1) := by decide +kernel
theorem dX0_performTurn_180 : decode cX0_performTurn 180 = .ok (.iload 4, 2) := by decide +kernel
theorem dX0_performTurn_182 : decode cX0_performTurn 182 = .ok (.invokevirtual 58, 3) := by decide +kernel
theorem dX0_performTurn_185 : decode cX0_performTurn 185 = .ok (.ireturn, 1) := by decide +kernel
theorem dX0_performTurn_186 : decode cX0_performTurn 186 = .ok (.aload_n 0, 1) := by decide +kernel
theorem dX0_performTurn_187 : decode cX0_performTurn 187 = .ok (.iload_n 2, 1) := by decide +kernel
theorem dX0_performTurn_188 : decode cX0_performTurn 188 = .ok (.iload_n 3, 1) := by decide +kernel
theorem dX0_performTurn_189 : decode cX0_performTurn 189 = .ok (.iconst 1, 1) := by decide +kernel
theorem dX0_performTurn_190 : decode cX0_performTurn 190 = .ok (.invokevirtual 50, 3) := by decide +kernel
theorem dX0_performTurn_193 : decode cX0_performTurn 193 = .ok (.ireturn, 1) := by decide +kernel
set_option maxRecDepth 20000 in
theorem ggX1_init_X2_init : GoodIn wsX1_init wsX2_init := goodIn_r _ [10, 11, 2, 3, 12, 13, 14, 15, 16, 17, 18, 19, 20, 21, 22, 23, 24, 25, 26, 27, 28, 29, 30, 31, 32, 36, 37, 38, 39, 40, 41, 42, 43, 44, 45, 46, 47, 48, 49, 50, 51, 52] (by decide +kernel) (by decide +kernel)
set_option maxRecDepth 20000 in
theorem gX1_init_X2_init : GoodIn wsX1_init (wsX2_init) := ggX1_init_X2_init
theorem dX1_init_0 : decode cX1_init 0 = .ok (.aload_n 0, 1) := by decide +kernel
theorem dX1_init_1 : decode cX1_init 1 = .ok (.invokespecial 3, 3) := by decide +kernel
theorem dX1_init_4 : decode cX1_init 4 = .ok (.aload_n 0, 1) := by decide +kernel
theorem dX1_init_5 : decode cX1_init 5 = .ok (.bipush 14, 2) := by decide +kernel
theorem dX1_init_7 : decode cX1_init 7 = .ok (.anewarray 9, 3) := by decide +kernel
theorem dX1_init_10 : decode cX1_init 10 = .ok (.putfield 11, 3) := by decide +kernel
theorem dX1_init_13 : decode cX1_init 13 = .ok (.iconst 0, 1) := by decide +kernel
theorem dX1_init_14 : decode cX1_init 14 = .ok (.istore_n 1, 1) := by decide +kernel
theorem dX1_init_15 : decode cX1_init 15 = .ok (.iload_n 1, 1) := by decide +kernel
theorem dX1_init_16 : decode cX1_init 16 = .ok (.bipush 14, 2) := by decide +kernel
theorem dX1_init_18 : decode cX1_init 18 = .ok (.if_icmp .ge 22, 3) := by decide +kernel
theorem dX1_init_21 : decode cX1_init 21 = .ok (.aload_n 0, 1) := by decide +kernel
theorem dX1_init_22 : decode cX1_init 22 = .ok (.getfield 11, 3) := by decide +kernel
theorem dX1_init_25 : decode cX1_init 25 = .ok (.iload_n 1, 1) := by decide +kernel
theorem dX1_init_26 : decode cX1_init 26 = .ok (.new 9, 3) := by decide +kernel
theorem dX1_init_29 : decode cX1_init 29 = .ok (.dup, 1) := by decide +kernel
theorem dX1_init_30 : decode cX1_init 30 = .ok (.invokespecial 17, 3) := by decide +kernel
theorem dX1_init_33 : decode cX1_init 33 = .ok (.aastore, 1) := by decide +kernel
theorem dX1_init_34 : decode cX1_init 34 = .ok (.iinc 1 1, 3) := by decide +kernel
theorem dX1_init_37 : decode cX1_init 37 = .ok (.goto (-22), 3) := by decide +kernel
theorem dX1_init_40 : decode cX1_init 40 = .ok (.return_, 1) := by decide +kernel
theorem dX1_clear_0 : decode cX1_clear 0 = .ok (.aload_n 0, 1) := by decide +kernel
theorem dX1_clear_1 : decode cX1_clear 1 = .ok (.iconst 0, 1) := by decide +kernel
theorem dX1_clear_2 : decode cX1_clear 2 = .ok (.putfield 18, 3) := by decide +kernel
theorem dX1_clear_5 : decode cX1_clear 5 = .ok (.return_, 1) := by decide +kernel
set_option maxRecDepth 20000 in
theorem ggX1_remember_X2_copyFrom : GoodIn wsX1_remember wsX2_copyFrom := goodIn_r _ [8, 9, 10, 11, 12, 13, 14, 15, 16, 17, 18, 19, 20, 21, 22, 23, 24, 25, 26, 27, 28, 7, 29, 30, 31, 32, 33, 34, 35, 36, 37, 38, 39, 43, 44, 45, 46, 47, 48, 49, 50, 51, 52, 53, 54, 55, 56, 57, 58, 59] (by decide +kernel) (by decide +kernel)
set_option maxRecDepth 20000 in
theorem gX1_remember_X2_copyFrom : GoodIn wsX1_remember (wsV RX1 25 RX2 yX2_copyFrom wsX2_copyFrom) := goodIn_app (goodIn_of _ (by decide +kernel)) ggX1_remember_X2_copyFrom
theorem dX1_remember_0 : decode cX1_remember 0 = .ok (.aload_n 0, 1) := by decide +kernel
theorem dX1_remember_1 : decode cX1_remember 1 = .ok (.getfield 18, 3) := by decide +kernel
theorem dX1_remember_4 : decode cX1_remember 4 = .ok (.bipush 14, 2) := by decide +kernel
theorem dX1_remember_6 : decode cX1_remember 6 = .ok (.if_icmp .ne 26, 3) := by decide +kernel
theorem dX1_remember_9 : decode cX1_remember 9 = .ok (.aload_n 0, 1) := by decide +kernel
theorem dX1_remember_10 : decode cX1_remember 10 = .ok (.aload_n 0, 1) := by decide +kernel
theorem dX1_remember_11 : decode cX1_remember 11 = .ok (.getfield 22, 3) := by decide +kernel
theorem dX1_remember_14 : decode cX1_remember 14 = .ok (.iconst 1, 1) := by decide +kernel
theorem dX1_remember_15 : decode cX1_remember 15 = .ok (.iadd, 1) := by decide +kernel
theorem dX1_remember_16 : decode cX1_remember 16 = .ok (.bipush 14, 2) := by decide +kernel
theorem dX1_remember_18 : decode cX1_remember 18 = .ok (.irem, 1) := by decide +kernel
theorem dX1_remember_19 : decode cX1_remember 19 = .ok (.putfield 22, 3) := by decide +kernel
theorem dX1_remember_22 : decode cX1_remember 22 = .ok (.aload_n 0, 1) := by decide +kernel
theorem dX1_remember_23 : decode cX1_remember 23 = .ok (.dup, 1) := by decide +kernel
theorem dX1_remember_24 : decode cX1_remember 24 = .ok (.getfield 18, 3) := by decide +kernel
theorem dX1_remember_27 : decode cX1_remember 27 = .ok (.iconst 1, 1) := by decide +kernel
theorem dX1_remember_28 : decode cX1_remember 28 = .ok (.isub, 1) := by decide +kernel
theorem dX1_remember_29 : decode cX1_remember 29 = .ok (.putfield 18, 3) := by decide +kernel
theorem dX1_remember_32 : decode cX1_remember 32 = .ok (.aload_n 0, 1) := by decide +kernel
theorem dX1_remember_33 : decode cX1_remember 33 = .ok (.getfield 11, 3) := by decide +kernel
theorem dX1_remember_36 : decode cX1_remember 36 = .ok (.aload_n 0, 1) := by decide +kernel
theorem dX1_remember_37 : decode cX1_remember 37 = .ok (.getfield 22, 3) := by decide +kernel
theorem dX1_remember_40 : decode cX1_remember 40 = .ok (.aload_n 0, 1) := by decide +kernel
theorem dX1_remember_41 : decode cX1_remember 41 = .ok (.getfield 18, 3) := by decide +kernel
theorem dX1_remember_44 : decode cX1_remember 44 = .ok (.iadd, 1) := by decide +kernel
theorem dX1_remember_45 : decode cX1_remember 45 = .ok (.bipush 14, 2) := by decide +kernel
theorem dX1_remember_47 : decode cX1_remember 47 = .ok (.irem, 1) := by decide +kernel
theorem dX1_remember_48 : decode cX1_remember 48 = .ok (.aaload, 1) := by decide +kernel
theorem dX1_remember_49 : decode cX1_remember 49 = .ok (.aload_n 1, 1) := by decide +kernel
theorem dX1_remember_50 : decode cX1_remember 50 = .ok (.invokevirtual 25, 3) := by decide +kernel
theorem dX1_remember_53 : decode cX1_remember 53 = .ok (.aload_n 0, 1) := by decide +kernel
theorem dX1_remember_54 : decode cX1_remember 54 = .ok (.dup, 1) := by decide +kernel
theorem dX1_remember_55 : decode cX1_remember 55 = .ok (.getfield 18, 3) := by decide +kernel
theorem dX1_remember_58 : decode cX1_remember 58 = .ok (.iconst 1, 1) := by decide +kernel
theorem dX1_remember_59 : decode cX1_remember 59 = .ok (.iadd, 1) := by decide +kernel
theorem dX1_remember_60 : decode cX1_remember 60 = .ok (.putfield 18, 3) := by decide +kernel
theorem dX1_remember_63 : decode cX1_remember 63 = .ok (.return_, 1) := by decide +kernel
set_option maxRecDepth 20000 in
theorem ggX1_takeBack_X2_copyFrom : GoodIn wsX1_takeBack wsX2_copyFrom := goodIn_r _ [8, 9, 10, 11, 12, 13, 14, 15, 16, 17, 18, 19, 20, 21, 22, 23, 24, 25, 26, 27, 28, 7, 29, 30, 31, 32, 33, 34, 35, 36, 37, 38, 39, 43, 44, 45, 46, 47, 48, 49, 50, 51, 52, 53, 54, 55, 56, 57, 58, 59] (by decide +kernel) (by decide +kernel)
set_option maxRecDepth 20000 in
theorem gX1_takeBack_X2_copyFrom : GoodIn wsX1_takeBack (wsV RX1 25 RX2 yX2_copyFrom wsX2_copyFrom) := goodIn_app (goodIn_of _ (by decide +kernel)) ggX1_takeBack_X2_copyFrom
theorem dX1_takeBack_0 : decode cX1_takeBack 0 = .ok (.aload_n 0, 1) := by decide +kernel
theorem dX1_takeBack_1 : decode cX1_takeBack 1 = .ok (.dup, 1) := by decide +kernel
theorem dX1_takeBack_2 : decode cX1_takeBack 2 = .ok (.getfield 18, 3) := by decide +kernel
theorem dX1_takeBack_5 : decode cX1_takeBack 5 = .ok (.iconst 1, 1) := by decide +kernel
theorem dX1_takeBack_6 : decode cX1_takeBack 6 = .ok (.isub, 1) := by decide +kernel
theorem dX1_takeBack_7 : decode cX1_takeBack 7 = .ok (.putfield 18, 3) := by decide +kernel
theorem dX1_takeBack_10 : decode cX1_takeBack 10 = .ok (.aload_n 1, 1) := by decide +kernel
theorem dX1_takeBack_11 : decode cX1_takeBack 11 = .ok (.aload_n 0, 1) := by decide +kernel
theorem dX1_takeBack_12 : decode cX1_takeBack 12 = .ok (.getfield 11, 3) := by decide +kernel
theorem dX1_takeBack_15 : decode cX1_takeBack 15 = .ok (.aload_n 0, 1) := by decide +kernel
theorem dX1_takeBack_16 : decode cX1_takeBack 16 = .ok (.getfield 22, 3) := by decide +kernel
theorem dX1_takeBack_19 : decode cX1_takeBack 19 = .ok (.aload_n 0, 1) := by decide +kernel
theorem dX1_takeBack_20 : decode cX1_takeBack 20 = .ok (.getfield 18, 3) := by decide +kernel
theorem dX1_takeBack_23 : decode cX1_takeBack 23 = .ok (.iadd, 1) := by decide +kernel
theorem dX1_takeBack_24 : decode cX1_takeBack 24 = .ok (.bipush 14, 2) := by decide +kernel
theorem dX1_takeBack_26 : decode cX1_takeBack 26 = .ok (.irem, 1) := by decide +kernel
theorem dX1_takeBack_27 : decode cX1_takeBack 27 = .ok (.aaload, 1) := by decide +kernel
theorem dX1_takeBack_28 : decode cX1_takeBack 28 = .ok (.invokevirtual 25, 3) := by decide +kernel
theorem dX1_takeBack_31 : decode cX1_takeBack 31 = .ok (.aload_n 0, 1) := by decide +kernel
theorem dX1_takeBack_32 : decode cX1_takeBack 32 = .ok (.getfield 18, 3) := by decide +kernel
theorem dX1_takeBack_35 : decode cX1_takeBack 35 = .ok (.ireturn, 1) := by decide +kernel
set_option maxRecDepth 20000 in
theorem ggX2_init_X3_init : GoodIn wsX2_init wsX3_init := goodIn_r _ [20, 21, 2, 3, 4, 22, 23, 24, 39, 40, 41] (by decide +kernel) (by decide +kernel)
set_option maxRecDepth 20000 in
theorem gX2_init_X3_init_n38 : GoodIn wsX2_init (wsX3_init) := ggX2_init_X3_init
theorem dX2_init_0 : decode cX2_init 0 = .ok (.aload_n 0, 1) := by decide +kernel
theorem dX2_init_1 : decode cX2_init 1 = .ok (.invokespecial 3, 3) := by decide +kernel
theorem dX2_init_4 : decode cX2_init 4 = .ok (.aload_n 0, 1) := by decide +kernel
theorem dX2_init_5 : decode cX2_init 5 = .ok (.bipush 12, 2) := by decide +kernel
theorem dX2_init_7 : decode cX2_init 7 = .ok (.newarray .int, 2) := by decide +kernel
theorem dX2_init_9 : decode cX2_init 9 = .ok (.putfield 9, 3) := by decide +kernel
theorem dX2_init_12 : decode cX2_init 12 = .ok (.aload_n 0, 1) := by decide +kernel
theorem dX2_init_13 : decode cX2_init 13 = .ok (.bipush 12, 2) := by decide +kernel
theorem dX2_init_15 : decode cX2_init 15 = .ok (.newarray .int, 2) := by decide +kernel
theorem dX2_init_17 : decode cX2_init 17 = .ok (.putfield 15, 3) := by decide +kernel
theorem dX2_init_20 : decode cX2_init 20 = .ok (.aload_n 0, 1) := by decide +kernel
theorem dX2_init_21 : decode cX2_init 21 = .ok (.bipush 12, 2) := by decide +kernel
theorem dX2_init_23 : decode cX2_init 23 = .ok (.newarray .int, 2) := by decide +kernel
theorem dX2_init_25 : decode cX2_init 25 = .ok (.putfield 18, 3) := by decide +kernel
theorem dX2_init_28 : decode cX2_init 28 = .ok (.aload_n 0, 1) := by decide +kernel
theorem dX2_init_29 : decode cX2_init 29 = .ok (.bipush 12, 2) := by decide +kernel
theorem dX2_init_31 : decode cX2_init 31 = .ok (.newarray .int, 2) := by decide +kernel
theorem dX2_init_33 : decode cX2_init 33 = .ok (.putfield 21, 3) := by decide +kernel
theorem dX2_init_36 : decode cX2_init 36 = .ok (.aload_n 0, 1) := by decide +kernel
theorem dX2_init_37 : decode cX2_init 37 = .ok (.bipush 12, 2) := by decide +kernel
theorem dX2_init_39 : decode cX2_init 39 = .ok (.newarray .int, 2) := by decide +kernel
theorem dX2_init_41 : decode cX2_init 41 = .ok (.putfield 24, 3) := by decide +kernel
theorem dX2_init_44 : decode cX2_init 44 = .ok (.aload_n 0, 1) := by decide +kernel
theorem dX2_init_45 : decode cX2_init 45 = .ok (.bipush 40, 2) := by decide +kernel
theorem dX2_init_47 : decode cX2_init 47 = .ok (.newarray .int, 2) := by decide +kernel
theorem dX2_init_49 : decode cX2_init 49 = .ok (.putfield 27, 3) := by decide +kernel
theorem dX2_init_52 : decode cX2_init 52 = .ok (.aload_n 0, 1) := by decide +kernel
theorem dX2_init_53 : decode cX2_init 53 = .ok (.iconst 5, 1) := by decide +kernel
theorem dX2_init_54 : decode cX2_init 54 = .ok (.newarray .int, 2) := by decide +kernel
theorem dX2_init_56 : decode cX2_init 56 = .ok (.putfield 30, 3) := by decide +kernel
theorem dX2_init_59 : decode cX2_init 59 = .ok (.aload_n 0, 1) := by decide +kernel
theorem dX2_init_60 : decode cX2_init 60 = .ok (.iconst 5, 1) := by decide +kernel
theorem dX2_init_61 : decode cX2_init 61 = .ok (.newarray .int, 2) := by decide +kernel
theorem dX2_init_63 : decode cX2_init 63 = .ok (.putfield 33, 3) := by decide +kernel
theorem dX2_init_66 : decode cX2_init 66 = .ok (.aload_n 0, 1) := by decide +kernel
theorem dX2_init_67 : decode cX2_init 67 = .ok (.new 36, 3) := by decide +kernel
theorem dX2_init_70 : decode cX2_init 70 = .ok (.dup, 1) := by decide +kernel
theorem dX2_init_71 : decode cX2_init 71 = .ok (.invokespecial 38, 3) := by decide +kernel
theorem dX2_init_74 : decode cX2_init 74 = .ok (.putfield 39, 3) := by decide +kernel
theorem dX2_init_77 : decode cX2_init 77 = .ok (.aload_n 0, 1) := by decide +kernel
theorem dX2_init_78 : decode cX2_init 78 = .ok (.sipush 250, 3) := by decide +kernel
theorem dX2_init_81 : decode cX2_init 81 = .ok (.putfield 43, 3) := by decide +kernel
theorem dX2_init_84 : decode cX2_init 84 = .ok (.aload_n 0, 1) := by decide +kernel
theorem dX2_init_85 : decode cX2_init 85 = .ok (.sipush 500, 3) := by decide +kernel
theorem dX2_init_88 : decode cX2_init 88 = .ok (.putfield 47, 3) := by decide +kernel
theorem dX2_init_91 : decode cX2_init 91 = .ok (.return_, 1) := by decide +kernel
set_option maxRecDepth 20000 in
theorem ggX2_clear_J7_fill_53178 : GoodIn wsX2_clear wsJ7_fill_53178 := goodIn_r _ [13] (by decide +kernel) (by decide +kernel)
set_option maxRecDepth 20000 in
theorem gX2_clear_J7_fill_53178 : GoodIn wsX2_clear (va_wsS RX2 59 yJ7_fill_53178 wsJ7_fill_53178) := goodIn_app (goodIn_of _ (by decide +kernel)) ggX2_clear_J7_fill_53178
set_option maxRecDepth 20000 in
theorem ggX2_clear_X3_clear : GoodIn wsX2_clear wsX3_clear := goodIn_r _ [18, 19, 20, 11, 12, 13, 35, 36, 37] (by decide +kernel) (by decide +kernel)
set_option maxRecDepth 20000 in
theorem gX2_clear_X3_clear : GoodIn wsX2_clear (wsV RX2 65 RX3 yX3_clear wsX3_clear) := goodIn_app (goodIn_of _ (by decide +kernel)) ggX2_clear_X3_clear
theorem dX2_clear_0 : decode cX2_clear 0 = .ok (.aload_n 0, 1) := by decide +kernel
theorem dX2_clear_1 : decode cX2_clear 1 = .ok (.iconst 0, 1) := by decide +kernel
theorem dX2_clear_2 : decode cX2_clear 2 = .ok (.putfield 50, 3) := by decide +kernel
theorem dX2_clear_5 : decode cX2_clear 5 = .ok (.aload_n 0, 1) := by decide +kernel
theorem dX2_clear_6 : decode cX2_clear 6 = .ok (.iconst 0, 1) := by decide +kernel
theorem dX2_clear_7 : decode cX2_clear 7 = .ok (.putfield 53, 3) := by decide +kernel
theorem dX2_clear_10 : decode cX2_clear 10 = .ok (.aload_n 0, 1) := by decide +kernel
theorem dX2_clear_11 : decode cX2_clear 11 = .ok (.sipush 250, 3) := by decide +kernel
theorem dX2_clear_14 : decode cX2_clear 14 = .ok (.putfield 43, 3) := by decide +kernel
theorem dX2_clear_17 : decode cX2_clear 17 = .ok (.aload_n 0, 1) := by decide +kernel
theorem dX2_clear_18 : decode cX2_clear 18 = .ok (.sipush 500, 3) := by decide +kernel
theorem dX2_clear_21 : decode cX2_clear 21 = .ok (.putfield 47, 3) := by decide +kernel
theorem dX2_clear_24 : decode cX2_clear 24 = .ok (.aload_n 0, 1) := by decide +kernel
theorem dX2_clear_25 : decode cX2_clear 25 = .ok (.iconst 0, 1) := by decide +kernel
theorem dX2_clear_26 : decode cX2_clear 26 = .ok (.putfield 56, 3) := by decide +kernel
theorem dX2_clear_29 : decode cX2_clear 29 = .ok (.aload_n 0, 1) := by decide +kernel
theorem dX2_clear_30 : decode cX2_clear 30 = .ok (.getfield 27, 3) := by decide +kernel
theorem dX2_clear_33 : decode cX2_clear 33 = .ok (.iconst 0, 1) := by decide +kernel
theorem dX2_clear_34 : decode cX2_clear 34 = .ok (.invokestatic 59, 3) := by decide +kernel
theorem dX2_clear_37 : decode cX2_clear 37 = .ok (.aload_n 0, 1) := by decide +kernel
theorem dX2_clear_38 : decode cX2_clear 38 = .ok (.getfield 30, 3) := by decide +kernel
theorem dX2_clear_41 : decode cX2_clear 41 = .ok (.iconst 0, 1) := by decide +kernel
theorem dX2_clear_42 : decode cX2_clear 42 = .ok (.invokestatic 59, 3) := by decide +kernel
theorem dX2_clear_45 : decode cX2_clear 45 = .ok (.aload_n 0, 1) := by decide +kernel
theorem dX2_clear_46 : decode cX2_clear 46 = .ok (.getfield 33, 3) := by decide +kernel
theorem dX2_clear_49 : decode cX2_clear 49 = .ok (.iconst 0, 1) := by decide +kernel
theorem dX2_clear_50 : decode cX2_clear 50 = .ok (.invokestatic 59, 3) := by decide +kernel
theorem dX2_clear_53 : decode cX2_clear 53 = .ok (.aload_n 0, 1) := by decide +kernel
theorem dX2_clear_54 : decode cX2_clear 54 = .ok (.getfield 39, 3) := by decide +kernel
theorem dX2_clear_57 : decode cX2_clear 57 = .ok (.invokevirtual 65, 3) := by decide +kernel
theorem dX2_clear_60 : decode cX2_clear 60 = .ok (.return_, 1) := by decide +kernel
set_option maxRecDepth 20000 in
theorem ggX2_copyFrom_X2_copyBalancesFrom : GoodIn wsX2_copyFrom wsX2_copyBalancesFrom := goodIn_r _ [22, 23, 7, 8, 9, 10, 33, 34, 35, 36, 37, 38, 39, 40, 41, 42, 43, 44, 45, 46] (by decide +kernel) (by decide +kernel)
set_option maxRecDepth 20000 in
theorem gX2_copyFrom_X2_copyBalancesFrom : GoodIn wsX2_copyFrom (wsV RX2 74 RX2 yX2_copyBalancesFrom wsX2_copyBalancesFrom) := goodIn_app (goodIn_of _ (by decide +kernel)) ggX2_copyFrom_X2_copyBalancesFrom
set_option maxRecDepth 20000 in
theorem ggX2_copyFrom_X3_copyFrom : GoodIn wsX2_copyFrom wsX3_copyFrom := goodIn_r _ [28, 29, 30, 8, 9, 10, 31, 32, 47, 48, 49] (by decide +kernel) (by decide +kernel)
set_option maxRecDepth 20000 in
theorem gX2_copyFrom_X3_copyFrom : GoodIn wsX2_copyFrom (wsV RX2 78 RX3 yX3_copyFrom wsX3_copyFrom) := goodIn_app (goodIn_of _ (by decide +kernel)) ggX2_copyFrom_X3_copyFrom
theorem dX2_copyFrom_0 : decode cX2_copyFrom 0 = .ok (.aload_n 0, 1) := by decide +kernel
theorem dX2_copyFrom_1 : decode cX2_copyFrom 1 = .ok (.aload_n 1, 1) := by decide +kernel
theorem dX2_copyFrom_2 : decode cX2_copyFrom 2 = .ok (.getfield 50, 3) := by decide +kernel
theorem dX2_copyFrom_5 : decode cX2_copyFrom 5 = .ok (.putfield 50, 3) := by decide +kernel
theorem dX2_copyFrom_8 : decode cX2_copyFrom 8 = .ok (.aload_n 0, 1) := by decide +kernel
theorem dX2_copyFrom_9 : decode cX2_copyFrom 9 = .ok (.aload_n 1, 1) := by decide +kernel
theorem dX2_copyFrom_10 : decode cX2_copyFrom 10 = .ok (.getfield 53, 3) := by decide +kernel
theorem dX2_copyFrom_13 : decode cX2_copyFrom 13 = .ok (.putfield 53, 3) := by decide +kernel
theorem dX2_copyFrom_16 : decode cX2_copyFrom 16 = .ok (.aload_n 0, 1) := by decide +kernel
theorem dX2_copyFrom_17 : decode cX2_copyFrom 17 = .ok (.aload_n 1, 1) := by decide +kernel
theorem dX2_copyFrom_18 : decode cX2_copyFrom 18 = .ok (.getfield 43, 3) := by decide +kernel
theorem dX2_copyFrom_21 : decode cX2_copyFrom 21 = .ok (.putfield 43, 3) := by decide +kernel
theorem dX2_copyFrom_24 : decode cX2_copyFrom 24 = .ok (.aload_n 0, 1) := by decide +kernel
theorem dX2_copyFrom_25 : decode cX2_copyFrom 25 = .ok (.aload_n 1, 1) := by decide +kernel
theorem dX2_copyFrom_26 : decode cX2_copyFrom 26 = .ok (.getfield 47, 3) := by decide +kernel
theorem dX2_copyFrom_29 : decode cX2_copyFrom 29 = .ok (.putfield 47, 3) := by decide +kernel
theorem dX2_copyFrom_32 : decode cX2_copyFrom 32 = .ok (.aload_n 0, 1) := by decide +kernel
theorem dX2_copyFrom_33 : decode cX2_copyFrom 33 = .ok (.aload_n 1, 1) := by decide +kernel
theorem dX2_copyFrom_34 : decode cX2_copyFrom 34 = .ok (.getfield 56, 3) := by decide +kernel
theorem dX2_copyFrom_37 : decode cX2_copyFrom 37 = .ok (.putfield 56, 3) := by decide +kernel
theorem dX2_copyFrom_40 : decode cX2_copyFrom 40 = .ok (.aload_n 1, 1) := by decide +kernel
theorem dX2_copyFrom_41 : decode cX2_copyFrom 41 = .ok (.getfield 9, 3) := by decide +kernel
theorem dX2_copyFrom_44 : decode cX2_copyFrom 44 = .ok (.iconst 0, 1) := by decide +kernel
theorem dX2_copyFrom_45 : decode cX2_copyFrom 45 = .ok (.aload_n 0, 1) := by decide +kernel
theorem dX2_copyFrom_46 : decode cX2_copyFrom 46 = .ok (.getfield 9, 3) := by decide +kernel
theorem dX2_copyFrom_49 : decode cX2_copyFrom 49 = .ok (.iconst 0, 1) := by decide +kernel
theorem dX2_copyFrom_50 : decode cX2_copyFrom 50 = .ok (.bipush 12, 2) := by decide +kernel
theorem dX2_copyFrom_52 : decode cX2_copyFrom 52 = .ok (.invokestatic 68, 3) := by decide +kernel
theorem dX2_copyFrom_55 : decode cX2_copyFrom 55 = .ok (.aload_n 1, 1) := by decide +kernel
theorem dX2_copyFrom_56 : decode cX2_copyFrom 56 = .ok (.getfield 15, 3) := by decide +kernel
theorem dX2_copyFrom_59 : decode cX2_copyFrom 59 = .ok (.iconst 0, 1) := by decide +kernel
theorem dX2_copyFrom_60 : decode cX2_copyFrom 60 = .ok (.aload_n 0, 1) := by decide +kernel
theorem dX2_copyFrom_61 : decode cX2_copyFrom 61 = .ok (.getfield 15, 3) := by decide +kernel
theorem dX2_copyFrom_64 : decode cX2_copyFrom 64 = .ok (.iconst 0, 1) := by decide +kernel
theorem dX2_copyFrom_65 : decode cX2_copyFrom 65 = .ok (.bipush 12, 2) := by decide +kernel
theorem dX2_copyFrom_67 : decode cX2_copyFrom 67 = .ok (.invokestatic 68, 3) := by decide +kernel
theorem dX2_copyFrom_70 : decode cX2_copyFrom 70 = .ok (.aload_n 1, 1) := by decide +kernel
theorem dX2_copyFrom_71 : decode cX2_copyFrom 71 = .ok (.getfield 21, 3) := by decide +kernel
theorem dX2_copyFrom_74 : decode cX2_copyFrom 74 = .ok (.iconst 0, 1) := by decide +kernel
theorem dX2_copyFrom_75 : decode cX2_copyFrom 75 = .ok (.aload_n 0, 1) := by decide +kernel
theorem dX2_copyFrom_76 : decode cX2_copyFrom 76 = .ok (.getfield 21, 3) := by decide +kernel
theorem dX2_copyFrom_79 : decode cX2_copyFrom 79 = .ok (.iconst 0, 1) := by decide +kernel
theorem dX2_copyFrom_80 : decode cX2_copyFrom 80 = .ok (.bipush 12, 2) := by decide +kernel
theorem dX2_copyFrom_82 : decode cX2_copyFrom 82 = .ok (.invokestatic 68, 3) := by decide +kernel
theorem dX2_copyFrom_85 : decode cX2_copyFrom 85 = .ok (.aload_n 1, 1) := by decide +kernel
theorem dX2_copyFrom_86 : decode cX2_copyFrom 86 = .ok (.getfield 24, 3) := by decide +kernel
theorem dX2_copyFrom_89 : decode cX2_copyFrom 89 = .ok (.iconst 0, 1) := by decide +kernel
theorem dX2_copyFrom_90 : decode cX2_copyFrom 90 = .ok (.aload_n 0, 1) := by decide +kernel
theorem dX2_copyFrom_91 : decode cX2_copyFrom 91 = .ok (.getfield 24, 3) := by decide +kernel
theorem dX2_copyFrom_94 : decode cX2_copyFrom 94 = .ok (.iconst 0, 1) := by decide +kernel
theorem dX2_copyFrom_95 : decode cX2_copyFrom 95 = .ok (.bipush 12, 2) := by decide +kernel
theorem dX2_copyFrom_97 : decode cX2_copyFrom 97 = .ok (.invokestatic 68, 3) := by decide +kernel
theorem dX2_copyFrom_100 : decode cX2_copyFrom 100 = .ok (.aload_n 1, 1) := by decide +kernel
theorem dX2_copyFrom_101 : decode cX2_copyFrom 101 = .ok (.getfield 27, 3) := by decide +kernel
theorem dX2_copyFrom_104 : decode cX2_copyFrom 104 = .ok (.iconst 0, 1) := by decide +kernel
theorem dX2_copyFrom_105 : decode cX2_copyFrom 105 = .ok (.aload_n 0, 1) := by decide +kernel
theorem dX2_copyFrom_106 : decode cX2_copyFrom 106 = .ok (.getfield 27, 3) := by decide +kernel
theorem dX2_copyFrom_109 : decode cX2_copyFrom 109 = .ok (.iconst 0, 1) := by decide +kernel
theorem dX2_copyFrom_110 : decode cX2_copyFrom 110 = .ok (.bipush 40, 2) := by decide +kernel
theorem dX2_copyFrom_112 : decode cX2_copyFrom 112 = .ok (.invokestatic 68, 3) := by decide +kernel
theorem dX2_copyFrom_115 : decode cX2_copyFrom 115 = .ok (.aload_n 1, 1) := by decide +kernel
theorem dX2_copyFrom_116 : decode cX2_copyFrom 116 = .ok (.getfield 30, 3) := by decide +kernel
theorem dX2_copyFrom_119 : decode cX2_copyFrom 119 = .ok (.iconst 0, 1) := by decide +kernel
theorem dX2_copyFrom_120 : decode cX2_copyFrom 120 = .ok (.aload_n 0, 1) := by decide +kernel
theorem dX2_copyFrom_121 : decode cX2_copyFrom 121 = .ok (.getfield 30, 3) := by decide +kernel
theorem dX2_copyFrom_124 : decode cX2_copyFrom 124 = .ok (.iconst 0, 1) := by decide +kernel
theorem dX2_copyFrom_125 : decode cX2_copyFrom 125 = .ok (.iconst 5, 1) := by decide +kernel
theorem dX2_copyFrom_126 : decode cX2_copyFrom 126 = .ok (.invokestatic 68, 3) := by decide +kernel
theorem dX2_copyFrom_129 : decode cX2_copyFrom 129 = .ok (.aload_n 1, 1) := by decide +kernel
theorem dX2_copyFrom_130 : decode cX2_copyFrom 130 = .ok (.getfield 33, 3) := by decide +kernel
theorem dX2_copyFrom_133 : decode cX2_copyFrom 133 = .ok (.iconst 0, 1) := by decide +kernel
theorem dX2_copyFrom_134 : decode cX2_copyFrom 134 = .ok (.aload_n 0, 1) := by decide +kernel
theorem dX2_copyFrom_135 : decode cX2_copyFrom 135 = .ok (.getfield 33, 3) := by decide +kernel
theorem dX2_copyFrom_138 : decode cX2_copyFrom 138 = .ok (.iconst 0, 1) := by decide +kernel
theorem dX2_copyFrom_139 : decode cX2_copyFrom 139 = .ok (.iconst 5, 1) := by decide +kernel
theorem dX2_copyFrom_140 : decode cX2_copyFrom 140 = .ok (.invokestatic 68, 3) := by decide +kernel
theorem dX2_copyFrom_143 : decode cX2_copyFrom 143 = .ok (.aload_n 0, 1) := by decide +kernel
theorem dX2_copyFrom_144 : decode cX2_copyFrom 144 = .ok (.aload_n 1, 1) := by decide +kernel
theorem dX2_copyFrom_145 : decode cX2_copyFrom 145 = .ok (.invokevirtual 74, 3) := by decide +kernel
theorem dX2_copyFrom_148 : decode cX2_copyFrom 148 = .ok (.aload_n 0, 1) := by decide +kernel
theorem dX2_copyFrom_149 : decode cX2_copyFrom 149 = .ok (.getfield 39, 3) := by decide +kernel
theorem dX2_copyFrom_152 : decode cX2_copyFrom 152 = .ok (.aload_n 1, 1) := by decide +kernel
theorem dX2_copyFrom_153 : decode cX2_copyFrom 153 = .ok (.getfield 39, 3) := by decide +kernel
theorem dX2_copyFrom_156 : decode cX2_copyFrom 156 = .ok (.invokevirtual 78, 3) := by decide +kernel
theorem dX2_copyFrom_159 : decode cX2_copyFrom 159 = .ok (.return_, 1) := by decide +kernel
theorem dX2_copyBalancesFrom_0 : decode cX2_copyBalancesFrom 0 = .ok (.aload_n 1, 1) := by decide +kernel
theorem dX2_copyBalancesFrom_1 : decode cX2_copyBalancesFrom 1 = .ok (.getfield 18, 3) := by decide +kernel
theorem dX2_copyBalancesFrom_4 : decode cX2_copyBalancesFrom 4 = .ok (.iconst 0, 1) := by decide +kernel
theorem dX2_copyBalancesFrom_5 : decode cX2_copyBalancesFrom 5 = .ok (.aload_n 0, 1) := by decide +kernel
theorem dX2_copyBalancesFrom_6 : decode cX2_copyBalancesFrom 6 = .ok (.getfield 18, 3) := by decide +kernel
theorem dX2_copyBalancesFrom_9 : decode cX2_copyBalancesFrom 9 = .ok (.iconst 0, 1) := by decide +kernel
theorem dX2_copyBalancesFrom_10 : decode cX2_copyBalancesFrom 10 = .ok (.bipush 12, 2) := by decide +kernel
theorem dX2_copyBalancesFrom_12 : decode cX2_copyBalancesFrom 12 = .ok (.invokestatic 68, 3) := by decide +kernel
theorem dX2_copyBalancesFrom_15 : decode cX2_copyBalancesFrom 15 = .ok (.return_, 1) := by decide +kernel
theorem dX2_hasChild_0 : decode cX2_hasChild 0 = .ok (.iload_n 1, 1) := by decide +kernel
theorem dX2_hasChild_1 : decode cX2_hasChild 1 = .ok (.ifCond .lt 15, 3) := by decide +kernel
theorem dX2_hasChild_4 : decode cX2_hasChild 4 = .ok (.iload_n 1, 1) := by decide +kernel
theorem dX2_hasChild_5 : decode cX2_hasChild 5 = .ok (.aload_n 0, 1) := by decide +kernel
theorem dX2_hasChild_6 : decode cX2_hasChild 6 = .ok (.getfield 53, 3) := by decide +kernel
theorem dX2_hasChild_9 : decode cX2_hasChild 9 = .ok (.if_icmp .ge 7, 3) := by decide +kernel
theorem dX2_hasChild_12 : decode cX2_hasChild 12 = .ok (.iconst 1, 1) := by decide +kernel
theorem dX2_hasChild_13 : decode cX2_hasChild 13 = .ok (.goto 4, 3) := by decide +kernel
theorem dX2_hasChild_16 : decode cX2_hasChild 16 = .ok (.iconst 0, 1) := by decide +kernel
theorem dX2_hasChild_17 : decode cX2_hasChild 17 = .ok (.ireturn, 1) := by decide +kernel
theorem dX2_daysLeft_0 : decode cX2_daysLeft 0 = .ok (.bipush 40, 2) := by decide +kernel
theorem dX2_daysLeft_2 : decode cX2_daysLeft 2 = .ok (.aload_n 0, 1) := by decide +kernel
theorem dX2_daysLeft_3 : decode cX2_daysLeft 3 = .ok (.getfield 50, 3) := by decide +kernel
theorem dX2_daysLeft_6 : decode cX2_daysLeft 6 = .ok (.isub, 1) := by decide +kernel
theorem dX2_daysLeft_7 : decode cX2_daysLeft 7 = .ok (.ireturn, 1) := by decide +kernel
theorem dX2_childrenOf_0 : decode cX2_childrenOf 0 = .ok (.iconst 0, 1) := by decide +kernel
theorem dX2_childrenOf_1 : decode cX2_childrenOf 1 = .ok (.istore_n 2, 1) := by decide +kernel
theorem dX2_childrenOf_2 : decode cX2_childrenOf 2 = .ok (.iconst 0, 1) := by decide +kernel
theorem dX2_childrenOf_3 : decode cX2_childrenOf 3 = .ok (.istore_n 3, 1) := by decide +kernel
theorem dX2_childrenOf_4 : decode cX2_childrenOf 4 = .ok (.iload_n 3, 1) := by decide +kernel
theorem dX2_childrenOf_5 : decode cX2_childrenOf 5 = .ok (.aload_n 0, 1) := by decide +kernel
theorem dX2_childrenOf_6 : decode cX2_childrenOf 6 = .ok (.getfield 53, 3) := by decide +kernel
theorem dX2_childrenOf_9 : decode cX2_childrenOf 9 = .ok (.if_icmp .ge 22, 3) := by decide +kernel
theorem dX2_childrenOf_12 : decode cX2_childrenOf 12 = .ok (.aload_n 0, 1) := by decide +kernel
theorem dX2_childrenOf_13 : decode cX2_childrenOf 13 = .ok (.getfield 9, 3) := by decide +kernel
theorem dX2_childrenOf_16 : decode cX2_childrenOf 16 = .ok (.iload_n 3, 1) := by decide +kernel
theorem dX2_childrenOf_17 : decode cX2_childrenOf 17 = .ok (.iaload, 1) := by decide +kernel
theorem dX2_childrenOf_18 : decode cX2_childrenOf 18 = .ok (.iload_n 1, 1) := by decide +kernel
theorem dX2_childrenOf_19 : decode cX2_childrenOf 19 = .ok (.if_icmp .ne 6, 3) := by decide +kernel
theorem dX2_childrenOf_22 : decode cX2_childrenOf 22 = .ok (.iinc 2 1, 3) := by decide +kernel
theorem dX2_childrenOf_25 : decode cX2_childrenOf 25 = .ok (.iinc 3 1, 3) := by decide +kernel
theorem dX2_childrenOf_28 : decode cX2_childrenOf 28 = .ok (.goto (-24), 3) := by decide +kernel
theorem dX2_childrenOf_31 : decode cX2_childrenOf 31 = .ok (.iload_n 2, 1) := by decide +kernel
theorem dX2_childrenOf_32 : decode cX2_childrenOf 32 = .ok (.ireturn, 1) := by decide +kernel
theorem dX2_lowestChildOf_0 : decode cX2_lowestChildOf 0 = .ok (.iconst 0, 1) := by decide +kernel
theorem dX2_lowestChildOf_1 : decode cX2_lowestChildOf 1 = .ok (.istore_n 2, 1) := by decide +kernel
theorem dX2_lowestChildOf_2 : decode cX2_lowestChildOf 2 = .ok (.iload_n 2, 1) := by decide +kernel
theorem dX2_lowestChildOf_3 : decode cX2_lowestChildOf 3 = .ok (.aload_n 0, 1) := by decide +kernel
theorem dX2_lowestChildOf_4 : decode cX2_lowestChildOf 4 = .ok (.getfield 53, 3) := by decide +kernel
theorem dX2_lowestChildOf_7 : decode cX2_lowestChildOf 7 = .ok (.if_icmp .ge 21, 3) := by decide +kernel
theorem dX2_lowestChildOf_10 : decode cX2_lowestChildOf 10 = .ok (.aload_n 0, 1) := by decide +kernel
theorem dX2_lowestChildOf_11 : decode cX2_lowestChildOf 11 = .ok (.getfield 9, 3) := by decide +kernel
theorem dX2_lowestChildOf_14 : decode cX2_lowestChildOf 14 = .ok (.iload_n 2, 1) := by decide +kernel
theorem dX2_lowestChildOf_15 : decode cX2_lowestChildOf 15 = .ok (.iaload, 1) := by decide +kernel
theorem dX2_lowestChildOf_16 : decode cX2_lowestChildOf 16 = .ok (.iload_n 1, 1) := by decide +kernel
theorem dX2_lowestChildOf_17 : decode cX2_lowestChildOf 17 = .ok (.if_icmp .ne 5, 3) := by decide +kernel
theorem dX2_lowestChildOf_20 : decode cX2_lowestChildOf 20 = .ok (.iload_n 2, 1) := by decide +kernel
theorem dX2_lowestChildOf_21 : decode cX2_lowestChildOf 21 = .ok (.ireturn, 1) := by decide +kernel
theorem dX2_lowestChildOf_22 : decode cX2_lowestChildOf 22 = .ok (.iinc 2 1, 3) := by decide +kernel
theorem dX2_lowestChildOf_25 : decode cX2_lowestChildOf 25 = .ok (.goto (-23), 3) := by decide +kernel
theorem dX2_lowestChildOf_28 : decode cX2_lowestChildOf 28 = .ok (.iconst (-1), 1) := by decide +kernel
theorem dX2_lowestChildOf_29 : decode cX2_lowestChildOf 29 = .ok (.ireturn, 1) := by decide +kernel
theorem dX2_sumOfBalances_0 : decode cX2_sumOfBalances 0 = .ok (.iconst 0, 1) := by decide +kernel
theorem dX2_sumOfBalances_1 : decode cX2_sumOfBalances 1 = .ok (.istore_n 1, 1) := by decide +kernel
theorem dX2_sumOfBalances_2 : decode cX2_sumOfBalances 2 = .ok (.iconst 0, 1) := by decide +kernel
theorem dX2_sumOfBalances_3 : decode cX2_sumOfBalances 3 = .ok (.istore_n 2, 1) := by decide +kernel
theorem dX2_sumOfBalances_4 : decode cX2_sumOfBalances 4 = .ok (.iload_n 2, 1) := by decide +kernel
theorem dX2_sumOfBalances_5 : decode cX2_sumOfBalances 5 = .ok (.aload_n 0, 1) := by decide +kernel
theorem dX2_sumOfBalances_6 : decode cX2_sumOfBalances 6 = .ok (.getfield 53, 3) := by decide +kernel
theorem dX2_sumOfBalances_9 : decode cX2_sumOfBalances 9 = .ok (.if_icmp .ge 18, 3) := by decide +kernel
theorem dX2_sumOfBalances_12 : decode cX2_sumOfBalances 12 = .ok (.iload_n 1, 1) := by decide +kernel
theorem dX2_sumOfBalances_13 : decode cX2_sumOfBalances 13 = .ok (.aload_n 0, 1) := by decide +kernel
theorem dX2_sumOfBalances_14 : decode cX2_sumOfBalances 14 = .ok (.getfield 18, 3) := by decide +kernel
theorem dX2_sumOfBalances_17 : decode cX2_sumOfBalances 17 = .ok (.iload_n 2, 1) := by decide +kernel
theorem dX2_sumOfBalances_18 : decode cX2_sumOfBalances 18 = .ok (.iaload, 1) := by decide +kernel
theorem dX2_sumOfBalances_19 : decode cX2_sumOfBalances 19 = .ok (.iadd, 1) := by decide +kernel
theorem dX2_sumOfBalances_20 : decode cX2_sumOfBalances 20 = .ok (.istore_n 1, 1) := by decide +kernel
theorem dX2_sumOfBalances_21 : decode cX2_sumOfBalances 21 = .ok (.iinc 2 1, 3) := by decide +kernel
theorem dX2_sumOfBalances_24 : decode cX2_sumOfBalances 24 = .ok (.goto (-20), 3) := by decide +kernel
theorem dX2_sumOfBalances_27 : decode cX2_sumOfBalances 27 = .ok (.iload_n 1, 1) := by decide +kernel
theorem dX2_sumOfBalances_28 : decode cX2_sumOfBalances 28 = .ok (.ireturn, 1) := by decide +kernel
theorem dX2_sumOfBalancesOf_0 : decode cX2_sumOfBalancesOf 0 = .ok (.iconst 0, 1) := by decide +kernel
theorem dX2_sumOfBalancesOf_1 : decode cX2_sumOfBalancesOf 1 = .ok (.istore_n 2, 1) := by decide +kernel
theorem dX2_sumOfBalancesOf_2 : decode cX2_sumOfBalancesOf 2 = .ok (.iconst 0, 1) := by decide +kernel
theorem dX2_sumOfBalancesOf_3 : decode cX2_sumOfBalancesOf 3 = .ok (.istore_n 3, 1) := by decide +kernel
theorem dX2_sumOfBalancesOf_4 : decode cX2_sumOfBalancesOf 4 = .ok (.iload_n 3, 1) := by decide +kernel
theorem dX2_sumOfBalancesOf_5 : decode cX2_sumOfBalancesOf 5 = .ok (.aload_n 0, 1) := by decide +kernel
theorem dX2_sumOfBalancesOf_6 : decode cX2_sumOfBalancesOf 6 = .ok (.getfield 53, 3) := by decide +kernel
theorem dX2_sumOfBalancesOf_9 : decode cX2_sumOfBalancesOf 9 = .ok (.if_icmp .ge 28, 3) := by decide +kernel
theorem dX2_sumOfBalancesOf_12 : decode cX2_sumOfBalancesOf 12 = .ok (.aload_n 0, 1) := by decide +kernel
theorem dX2_sumOfBalancesOf_13 : decode cX2_sumOfBalancesOf 13 = .ok (.getfield 9, 3) := by decide +kernel
theorem dX2_sumOfBalancesOf_16 : decode cX2_sumOfBalancesOf 16 = .ok (.iload_n 3, 1) := by decide +kernel
theorem dX2_sumOfBalancesOf_17 : decode cX2_sumOfBalancesOf 17 = .ok (.iaload, 1) := by decide +kernel
theorem dX2_sumOfBalancesOf_18 : decode cX2_sumOfBalancesOf 18 = .ok (.iload_n 1, 1) := by decide +kernel
theorem dX2_sumOfBalancesOf_19 : decode cX2_sumOfBalancesOf 19 = .ok (.if_icmp .ne 12, 3) := by decide +kernel
theorem dX2_sumOfBalancesOf_22 : decode cX2_sumOfBalancesOf 22 = .ok (.iload_n 2, 1) := by decide +kernel
theorem dX2_sumOfBalancesOf_23 : decode cX2_sumOfBalancesOf 23 = .ok (.aload_n 0, 1) := by decide +kernel
theorem dX2_sumOfBalancesOf_24 : decode cX2_sumOfBalancesOf 24 = .ok (.getfield 18, 3) := by decide +kernel
theorem dX2_sumOfBalancesOf_27 : decode cX2_sumOfBalancesOf 27 = .ok (.iload_n 3, 1) := by decide +kernel
theorem dX2_sumOfBalancesOf_28 : decode cX2_sumOfBalancesOf 28 = .ok (.iaload, 1) := by decide +kernel
theorem dX2_sumOfBalancesOf_29 : decode cX2_sumOfBalancesOf 29 = .ok (.iadd, 1) := by decide +kernel
theorem dX2_sumOfBalancesOf_30 : decode cX2_sumOfBalancesOf 30 = .ok (.istore_n 2, 1) := by decide +kernel
theorem dX2_sumOfBalancesOf_31 : decode cX2_sumOfBalancesOf 31 = .ok (.iinc 3 1, 3) := by decide +kernel
theorem dX2_sumOfBalancesOf_34 : decode cX2_sumOfBalancesOf 34 = .ok (.goto (-30), 3) := by decide +kernel
theorem dX2_sumOfBalancesOf_37 : decode cX2_sumOfBalancesOf 37 = .ok (.iload_n 2, 1) := by decide +kernel
theorem dX2_sumOfBalancesOf_38 : decode cX2_sumOfBalancesOf 38 = .ok (.ireturn, 1) := by decide +kernel
theorem dX2_debtOf_0 : decode cX2_debtOf 0 = .ok (.iconst 0, 1) := by decide +kernel
theorem dX2_debtOf_1 : decode cX2_debtOf 1 = .ok (.istore_n 2, 1) := by decide +kernel
theorem dX2_debtOf_2 : decode cX2_debtOf 2 = .ok (.iconst 0, 1) := by decide +kernel
theorem dX2_debtOf_3 : decode cX2_debtOf 3 = .ok (.istore_n 3, 1) := by decide +kernel
theorem dX2_debtOf_4 : decode cX2_debtOf 4 = .ok (.iload_n 3, 1) := by decide +kernel
theorem dX2_debtOf_5 : decode cX2_debtOf 5 = .ok (.aload_n 0, 1) := by decide +kernel
theorem dX2_debtOf_6 : decode cX2_debtOf 6 = .ok (.getfield 53, 3) := by decide +kernel
theorem dX2_debtOf_9 : decode cX2_debtOf 9 = .ok (.if_icmp .ge 37, 3) := by decide +kernel
theorem dX2_debtOf_12 : decode cX2_debtOf 12 = .ok (.aload_n 0, 1) := by decide +kernel
theorem dX2_debtOf_13 : decode cX2_debtOf 13 = .ok (.getfield 9, 3) := by decide +kernel
theorem dX2_debtOf_16 : decode cX2_debtOf 16 = .ok (.iload_n 3, 1) := by decide +kernel
theorem dX2_debtOf_17 : decode cX2_debtOf 17 = .ok (.iaload, 1) := by decide +kernel
theorem dX2_debtOf_18 : decode cX2_debtOf 18 = .ok (.iload_n 1, 1) := by decide +kernel
theorem dX2_debtOf_19 : decode cX2_debtOf 19 = .ok (.if_icmp .ne 21, 3) := by decide +kernel
theorem dX2_debtOf_22 : decode cX2_debtOf 22 = .ok (.aload_n 0, 1) := by decide +kernel
theorem dX2_debtOf_23 : decode cX2_debtOf 23 = .ok (.getfield 18, 3) := by decide +kernel
theorem dX2_debtOf_26 : decode cX2_debtOf 26 = .ok (.iload_n 3, 1) := by decide +kernel
theorem dX2_debtOf_27 : decode cX2_debtOf 27 = .ok (.iaload, 1) := by decide +kernel
theorem dX2_debtOf_28 : decode cX2_debtOf 28 = .ok (.ifCond .ge 12, 3) := by decide +kernel
theorem dX2_debtOf_31 : decode cX2_debtOf 31 = .ok (.iload_n 2, 1) := by decide +kernel
theorem dX2_debtOf_32 : decode cX2_debtOf 32 = .ok (.aload_n 0, 1) := by decide +kernel
theorem dX2_debtOf_33 : decode cX2_debtOf 33 = .ok (.getfield 18, 3) := by decide +kernel
theorem dX2_debtOf_36 : decode cX2_debtOf 36 = .ok (.iload_n 3, 1) := by decide +kernel
theorem dX2_debtOf_37 : decode cX2_debtOf 37 = .ok (.iaload, 1) := by decide +kernel
theorem dX2_debtOf_38 : decode cX2_debtOf 38 = .ok (.isub, 1) := by decide +kernel
theorem dX2_debtOf_39 : decode cX2_debtOf 39 = .ok (.istore_n 2, 1) := by decide +kernel
theorem dX2_debtOf_40 : decode cX2_debtOf 40 = .ok (.iinc 3 1, 3) := by decide +kernel
theorem dX2_debtOf_43 : decode cX2_debtOf 43 = .ok (.goto (-39), 3) := by decide +kernel
theorem dX2_debtOf_46 : decode cX2_debtOf 46 = .ok (.iload_n 2, 1) := by decide +kernel
theorem dX2_debtOf_47 : decode cX2_debtOf 47 = .ok (.ireturn, 1) := by decide +kernel
theorem dX2_writtenOffInAll_0 : decode cX2_writtenOffInAll 0 = .ok (.iconst 0, 1) := by decide +kernel
theorem dX2_writtenOffInAll_1 : decode cX2_writtenOffInAll 1 = .ok (.istore_n 1, 1) := by decide +kernel
theorem dX2_writtenOffInAll_2 : decode cX2_writtenOffInAll 2 = .ok (.iconst 0, 1) := by decide +kernel
theorem dX2_writtenOffInAll_3 : decode cX2_writtenOffInAll 3 = .ok (.istore_n 2, 1) := by decide +kernel
theorem dX2_writtenOffInAll_4 : decode cX2_writtenOffInAll 4 = .ok (.iload_n 2, 1) := by decide +kernel
theorem dX2_writtenOffInAll_5 : decode cX2_writtenOffInAll 5 = .ok (.iconst 5, 1) := by decide +kernel
theorem dX2_writtenOffInAll_6 : decode cX2_writtenOffInAll 6 = .ok (.if_icmp .ge 18, 3) := by decide +kernel
theorem dX2_writtenOffInAll_9 : decode cX2_writtenOffInAll 9 = .ok (.iload_n 1, 1) := by decide +kernel
theorem dX2_writtenOffInAll_10 : decode cX2_writtenOffInAll 10 = .ok (.aload_n 0, 1) := by decide +kernel
theorem dX2_writtenOffInAll_11 : decode cX2_writtenOffInAll 11 = .ok (.getfield 33, 3) := by decide +kernel
theorem dX2_writtenOffInAll_14 : decode cX2_writtenOffInAll 14 = .ok (.iload_n 2, 1) := by decide +kernel
theorem dX2_writtenOffInAll_15 : decode cX2_writtenOffInAll 15 = .ok (.iaload, 1) := by decide +kernel
theorem dX2_writtenOffInAll_16 : decode cX2_writtenOffInAll 16 = .ok (.iadd, 1) := by decide +kernel
theorem dX2_writtenOffInAll_17 : decode cX2_writtenOffInAll 17 = .ok (.istore_n 1, 1) := by decide +kernel
theorem dX2_writtenOffInAll_18 : decode cX2_writtenOffInAll 18 = .ok (.iinc 2 1, 3) := by decide +kernel
theorem dX2_writtenOffInAll_21 : decode cX2_writtenOffInAll 21 = .ok (.goto (-17), 3) := by decide +kernel
theorem dX2_writtenOffInAll_24 : decode cX2_writtenOffInAll 24 = .ok (.iload_n 1, 1) := by decide +kernel
theorem dX2_writtenOffInAll_25 : decode cX2_writtenOffInAll 25 = .ok (.ireturn, 1) := by decide +kernel
theorem dX2_isEntitled_0 : decode cX2_isEntitled 0 = .ok (.aload_n 0, 1) := by decide +kernel
theorem dX2_isEntitled_1 : decode cX2_isEntitled 1 = .ok (.getfield 21, 3) := by decide +kernel
theorem dX2_isEntitled_4 : decode cX2_isEntitled 4 = .ok (.iload_n 1, 1) := by decide +kernel
theorem dX2_isEntitled_5 : decode cX2_isEntitled 5 = .ok (.iaload, 1) := by decide +kernel
theorem dX2_isEntitled_6 : decode cX2_isEntitled 6 = .ok (.iconst (-1), 1) := by decide +kernel
theorem dX2_isEntitled_7 : decode cX2_isEntitled 7 = .ok (.if_icmp .eq 27, 3) := by decide +kernel
theorem dX2_isEntitled_10 : decode cX2_isEntitled 10 = .ok (.iload_n 2, 1) := by decide +kernel
theorem dX2_isEntitled_11 : decode cX2_isEntitled 11 = .ok (.aload_n 0, 1) := by decide +kernel
theorem dX2_isEntitled_12 : decode cX2_isEntitled 12 = .ok (.getfield 21, 3) := by decide +kernel
theorem dX2_isEntitled_15 : decode cX2_isEntitled 15 = .ok (.iload_n 1, 1) := by decide +kernel
theorem dX2_isEntitled_16 : decode cX2_isEntitled 16 = .ok (.iaload, 1) := by decide +kernel
theorem dX2_isEntitled_17 : decode cX2_isEntitled 17 = .ok (.if_icmp .lt 17, 3) := by decide +kernel
theorem dX2_isEntitled_20 : decode cX2_isEntitled 20 = .ok (.iload_n 2, 1) := by decide +kernel
theorem dX2_isEntitled_21 : decode cX2_isEntitled 21 = .ok (.aload_n 0, 1) := by decide +kernel
theorem dX2_isEntitled_22 : decode cX2_isEntitled 22 = .ok (.getfield 24, 3) := by decide +kernel
theorem dX2_isEntitled_25 : decode cX2_isEntitled 25 = .ok (.iload_n 1, 1) := by decide +kernel
theorem dX2_isEntitled_26 : decode cX2_isEntitled 26 = .ok (.iaload, 1) := by decide +kernel
theorem dX2_isEntitled_27 : decode cX2_isEntitled 27 = .ok (.if_icmp .gt 7, 3) := by decide +kernel
theorem dX2_isEntitled_30 : decode cX2_isEntitled 30 = .ok (.iconst 1, 1) := by decide +kernel
theorem dX2_isEntitled_31 : decode cX2_isEntitled 31 = .ok (.goto 4, 3) := by decide +kernel
theorem dX2_isEntitled_34 : decode cX2_isEntitled 34 = .ok (.iconst 0, 1) := by decide +kernel
theorem dX2_isEntitled_35 : decode cX2_isEntitled 35 = .ok (.ireturn, 1) := by decide +kernel
set_option maxRecDepth 20000 in
theorem ggX2_faultOfCome_X5_isFamily : GoodIn wsX2_faultOfCome wsX5_isFamily := goodIn_r _ [4] (by decide +kernel) (by decide +kernel)
set_option maxRecDepth 20000 in
theorem gX2_faultOfCome_X5_isFamily_n82 : GoodIn wsX2_faultOfCome (wsX5_isFamily) := ggX2_faultOfCome_X5_isFamily
theorem dX2_faultOfCome_0 : decode cX2_faultOfCome 0 = .ok (.iload_n 1, 1) := by decide +kernel
theorem dX2_faultOfCome_1 : decode cX2_faultOfCome 1 = .ok (.invokestatic 82, 3) := by decide +kernel
theorem dX2_faultOfCome_4 : decode cX2_faultOfCome 4 = .ok (.ifCond .ne 5, 3) := by decide +kernel
theorem dX2_faultOfCome_7 : decode cX2_faultOfCome 7 = .ok (.iconst 1, 1) := by decide +kernel
theorem dX2_faultOfCome_8 : decode cX2_faultOfCome 8 = .ok (.ireturn, 1) := by decide +kernel
theorem dX2_faultOfCome_9 : decode cX2_faultOfCome 9 = .ok (.iload_n 2, 1) := by decide +kernel
theorem dX2_faultOfCome_10 : decode cX2_faultOfCome 10 = .ok (.ifCond .lt 8, 3) := by decide +kernel
theorem dX2_faultOfCome_13 : decode cX2_faultOfCome 13 = .ok (.iload_n 2, 1) := by decide +kernel
theorem dX2_faultOfCome_14 : decode cX2_faultOfCome 14 = .ok (.iconst 3, 1) := by decide +kernel
theorem dX2_faultOfCome_15 : decode cX2_faultOfCome 15 = .ok (.if_icmp .le 5, 3) := by decide +kernel
theorem dX2_faultOfCome_18 : decode cX2_faultOfCome 18 = .ok (.iconst 2, 1) := by decide +kernel
theorem dX2_faultOfCome_19 : decode cX2_faultOfCome 19 = .ok (.ireturn, 1) := by decide +kernel
theorem dX2_faultOfCome_20 : decode cX2_faultOfCome 20 = .ok (.aload_n 0, 1) := by decide +kernel
theorem dX2_faultOfCome_21 : decode cX2_faultOfCome 21 = .ok (.getfield 53, 3) := by decide +kernel
theorem dX2_faultOfCome_24 : decode cX2_faultOfCome 24 = .ok (.bipush 12, 2) := by decide +kernel
theorem dX2_faultOfCome_26 : decode cX2_faultOfCome 26 = .ok (.if_icmp .lt 7, 3) := by decide +kernel
theorem dX2_faultOfCome_29 : decode cX2_faultOfCome 29 = .ok (.iconst 3, 1) := by decide +kernel
theorem dX2_faultOfCome_30 : decode cX2_faultOfCome 30 = .ok (.goto 4, 3) := by decide +kernel
theorem dX2_faultOfCome_33 : decode cX2_faultOfCome 33 = .ok (.iconst 0, 1) := by decide +kernel
theorem dX2_faultOfCome_34 : decode cX2_faultOfCome 34 = .ok (.ireturn, 1) := by decide +kernel
set_option maxRecDepth 20000 in
theorem ggX2_faultOfMenu_X5_isDay : GoodIn wsX2_faultOfMenu wsX5_isDay := goodIn_r _ [4] (by decide +kernel) (by decide +kernel)
set_option maxRecDepth 20000 in
theorem gX2_faultOfMenu_X5_isDay_n86 : GoodIn wsX2_faultOfMenu (wsX5_isDay) := ggX2_faultOfMenu_X5_isDay
theorem dX2_faultOfMenu_0 : decode cX2_faultOfMenu 0 = .ok (.iload_n 1, 1) := by decide +kernel
theorem dX2_faultOfMenu_1 : decode cX2_faultOfMenu 1 = .ok (.invokestatic 86, 3) := by decide +kernel
theorem dX2_faultOfMenu_4 : decode cX2_faultOfMenu 4 = .ok (.ifCond .ne 5, 3) := by decide +kernel
theorem dX2_faultOfMenu_7 : decode cX2_faultOfMenu 7 = .ok (.iconst 1, 1) := by decide +kernel
theorem dX2_faultOfMenu_8 : decode cX2_faultOfMenu 8 = .ok (.ireturn, 1) := by decide +kernel
theorem dX2_faultOfMenu_9 : decode cX2_faultOfMenu 9 = .ok (.iload_n 2, 1) := by decide +kernel
theorem dX2_faultOfMenu_10 : decode cX2_faultOfMenu 10 = .ok (.ifCond .lt 8, 3) := by decide +kernel
theorem dX2_faultOfMenu_13 : decode cX2_faultOfMenu 13 = .ok (.iload_n 2, 1) := by decide +kernel
theorem dX2_faultOfMenu_14 : decode cX2_faultOfMenu 14 = .ok (.iconst 3, 1) := by decide +kernel
theorem dX2_faultOfMenu_15 : decode cX2_faultOfMenu 15 = .ok (.if_icmp .le 5, 3) := by decide +kernel
theorem dX2_faultOfMenu_18 : decode cX2_faultOfMenu 18 = .ok (.iconst 2, 1) := by decide +kernel
theorem dX2_faultOfMenu_19 : decode cX2_faultOfMenu 19 = .ok (.ireturn, 1) := by decide +kernel
theorem dX2_faultOfMenu_20 : decode cX2_faultOfMenu 20 = .ok (.iload_n 1, 1) := by decide +kernel
theorem dX2_faultOfMenu_21 : decode cX2_faultOfMenu 21 = .ok (.aload_n 0, 1) := by decide +kernel
theorem dX2_faultOfMenu_22 : decode cX2_faultOfMenu 22 = .ok (.getfield 50, 3) := by decide +kernel
theorem dX2_faultOfMenu_25 : decode cX2_faultOfMenu 25 = .ok (.if_icmp .ge 7, 3) := by decide +kernel
theorem dX2_faultOfMenu_28 : decode cX2_faultOfMenu 28 = .ok (.iconst 3, 1) := by decide +kernel
theorem dX2_faultOfMenu_29 : decode cX2_faultOfMenu 29 = .ok (.goto 4, 3) := by decide +kernel
theorem dX2_faultOfMenu_32 : decode cX2_faultOfMenu 32 = .ok (.iconst 0, 1) := by decide +kernel
theorem dX2_faultOfMenu_33 : decode cX2_faultOfMenu 33 = .ok (.ireturn, 1) := by decide +kernel
set_option maxRecDepth 20000 in
theorem ggX2_faultOfOrder_X2_hasChild : GoodIn wsX2_faultOfOrder wsX2_hasChild := goodIn_r _ [6, 7, 11, 12, 13, 14, 15, 16, 17, 18, 19, 20, 21, 22, 23, 24] (by decide +kernel) (by decide +kernel)
set_option maxRecDepth 20000 in
theorem gX2_faultOfOrder_X2_hasChild : GoodIn wsX2_faultOfOrder (wsV RX2 89 RX2 yX2_hasChild wsX2_hasChild) := goodIn_app (goodIn_of _ (by decide +kernel)) ggX2_faultOfOrder_X2_hasChild
set_option maxRecDepth 20000 in
theorem ggX2_faultOfOrder_X5_isDay : GoodIn wsX2_faultOfOrder wsX5_isDay := goodIn_r _ [10] (by decide +kernel) (by decide +kernel)
set_option maxRecDepth 20000 in
theorem gX2_faultOfOrder_X5_isDay_n86 : GoodIn wsX2_faultOfOrder (wsX5_isDay) := ggX2_faultOfOrder_X5_isDay
theorem dX2_faultOfOrder_0 : decode cX2_faultOfOrder 0 = .ok (.aload_n 0, 1) := by decide +kernel
theorem dX2_faultOfOrder_1 : decode cX2_faultOfOrder 1 = .ok (.iload_n 1, 1) := by decide +kernel
theorem dX2_faultOfOrder_2 : decode cX2_faultOfOrder 2 = .ok (.invokevirtual 89, 3) := by decide +kernel
theorem dX2_faultOfOrder_5 : decode cX2_faultOfOrder 5 = .ok (.ifCond .eq 10, 3) := by decide +kernel
theorem dX2_faultOfOrder_8 : decode cX2_faultOfOrder 8 = .ok (.iload_n 2, 1) := by decide +kernel
theorem dX2_faultOfOrder_9 : decode cX2_faultOfOrder 9 = .ok (.invokestatic 86, 3) := by decide +kernel
theorem dX2_faultOfOrder_12 : decode cX2_faultOfOrder 12 = .ok (.ifCond .ne 5, 3) := by decide +kernel
theorem dX2_faultOfOrder_15 : decode cX2_faultOfOrder 15 = .ok (.iconst 1, 1) := by decide +kernel
theorem dX2_faultOfOrder_16 : decode cX2_faultOfOrder 16 = .ok (.ireturn, 1) := by decide +kernel
theorem dX2_faultOfOrder_17 : decode cX2_faultOfOrder 17 = .ok (.iload_n 2, 1) := by decide +kernel
theorem dX2_faultOfOrder_18 : decode cX2_faultOfOrder 18 = .ok (.aload_n 0, 1) := by decide +kernel
theorem dX2_faultOfOrder_19 : decode cX2_faultOfOrder 19 = .ok (.getfield 50, 3) := by decide +kernel
theorem dX2_faultOfOrder_22 : decode cX2_faultOfOrder 22 = .ok (.if_icmp .ge 7, 3) := by decide +kernel
theorem dX2_faultOfOrder_25 : decode cX2_faultOfOrder 25 = .ok (.iconst 3, 1) := by decide +kernel
theorem dX2_faultOfOrder_26 : decode cX2_faultOfOrder 26 = .ok (.goto 4, 3) := by decide +kernel
theorem dX2_faultOfOrder_29 : decode cX2_faultOfOrder 29 = .ok (.iconst 0, 1) := by decide +kernel
theorem dX2_faultOfOrder_30 : decode cX2_faultOfOrder 30 = .ok (.ireturn, 1) := by decide +kernel
set_option maxRecDepth 20000 in
theorem ggX2_faultOfPay_X2_hasChild : GoodIn wsX2_faultOfPay wsX2_hasChild := goodIn_r _ [6, 7, 8, 9, 10, 11, 12, 13, 14, 15, 16, 17, 18, 19, 20, 21] (by decide +kernel) (by decide +kernel)
set_option maxRecDepth 20000 in
theorem gX2_faultOfPay_X2_hasChild : GoodIn wsX2_faultOfPay (wsV RX2 89 RX2 yX2_hasChild wsX2_hasChild) := goodIn_app (goodIn_of _ (by decide +kernel)) ggX2_faultOfPay_X2_hasChild
theorem dX2_faultOfPay_0 : decode cX2_faultOfPay 0 = .ok (.aload_n 0, 1) := by decide +kernel
theorem dX2_faultOfPay_1 : decode cX2_faultOfPay 1 = .ok (.iload_n 1, 1) := by decide +kernel
theorem dX2_faultOfPay_2 : decode cX2_faultOfPay 2 = .ok (.invokevirtual 89, 3) := by decide +kernel
theorem dX2_faultOfPay_5 : decode cX2_faultOfPay 5 = .ok (.ifCond .ne 5, 3) := by decide +kernel
theorem dX2_faultOfPay_8 : decode cX2_faultOfPay 8 = .ok (.iconst 1, 1) := by decide +kernel
theorem dX2_faultOfPay_9 : decode cX2_faultOfPay 9 = .ok (.ireturn, 1) := by decide +kernel
theorem dX2_faultOfPay_10 : decode cX2_faultOfPay 10 = .ok (.iload_n 2, 1) := by decide +kernel
theorem dX2_faultOfPay_11 : decode cX2_faultOfPay 11 = .ok (.ifCond .eq 17, 3) := by decide +kernel
theorem dX2_faultOfPay_14 : decode cX2_faultOfPay 14 = .ok (.iload_n 2, 1) := by decide +kernel
theorem dX2_faultOfPay_15 : decode cX2_faultOfPay 15 = .ok (.sipush (-9999), 3) := by decide +kernel
theorem dX2_faultOfPay_18 : decode cX2_faultOfPay 18 = .ok (.if_icmp .lt 10, 3) := by decide +kernel
theorem dX2_faultOfPay_21 : decode cX2_faultOfPay 21 = .ok (.iload_n 2, 1) := by decide +kernel
theorem dX2_faultOfPay_22 : decode cX2_faultOfPay 22 = .ok (.sipush 9999, 3) := by decide +kernel
theorem dX2_faultOfPay_25 : decode cX2_faultOfPay 25 = .ok (.if_icmp .le 5, 3) := by decide +kernel
theorem dX2_faultOfPay_28 : decode cX2_faultOfPay 28 = .ok (.iconst 2, 1) := by decide +kernel
theorem dX2_faultOfPay_29 : decode cX2_faultOfPay 29 = .ok (.ireturn, 1) := by decide +kernel
theorem dX2_faultOfPay_30 : decode cX2_faultOfPay 30 = .ok (.iload_n 2, 1) := by decide +kernel
theorem dX2_faultOfPay_31 : decode cX2_faultOfPay 31 = .ok (.ifCond .ge 18, 3) := by decide +kernel
theorem dX2_faultOfPay_34 : decode cX2_faultOfPay 34 = .ok (.aload_n 0, 1) := by decide +kernel
theorem dX2_faultOfPay_35 : decode cX2_faultOfPay 35 = .ok (.getfield 18, 3) := by decide +kernel
theorem dX2_faultOfPay_38 : decode cX2_faultOfPay 38 = .ok (.iload_n 1, 1) := by decide +kernel
theorem dX2_faultOfPay_39 : decode cX2_faultOfPay 39 = .ok (.iaload, 1) := by decide +kernel
theorem dX2_faultOfPay_40 : decode cX2_faultOfPay 40 = .ok (.iload_n 2, 1) := by decide +kernel
theorem dX2_faultOfPay_41 : decode cX2_faultOfPay 41 = .ok (.iadd, 1) := by decide +kernel
theorem dX2_faultOfPay_42 : decode cX2_faultOfPay 42 = .ok (.ifCond .ge 7, 3) := by decide +kernel
theorem dX2_faultOfPay_45 : decode cX2_faultOfPay 45 = .ok (.iconst 3, 1) := by decide +kernel
theorem dX2_faultOfPay_46 : decode cX2_faultOfPay 46 = .ok (.goto 4, 3) := by decide +kernel
theorem dX2_faultOfPay_49 : decode cX2_faultOfPay 49 = .ok (.iconst 0, 1) := by decide +kernel
theorem dX2_faultOfPay_50 : decode cX2_faultOfPay 50 = .ok (.ireturn, 1) := by decide +kernel
set_option maxRecDepth 20000 in
theorem ggX2_faultOfMove_X2_hasChild : GoodIn wsX2_faultOfMove wsX2_hasChild := goodIn_r _ [7, 8, 9, 10, 11, 12, 13, 14, 15, 16, 17, 18, 19, 20, 21, 22] (by decide +kernel) (by decide +kernel)
set_option maxRecDepth 20000 in
theorem gX2_faultOfMove_X2_hasChild : GoodIn wsX2_faultOfMove (wsV RX2 89 RX2 yX2_hasChild wsX2_hasChild) := goodIn_app (goodIn_of _ (by decide +kernel)) ggX2_faultOfMove_X2_hasChild
theorem dX2_faultOfMove_0 : decode cX2_faultOfMove 0 = .ok (.aload_n 0, 1) := by decide +kernel
theorem dX2_faultOfMove_1 : decode cX2_faultOfMove 1 = .ok (.iload_n 1, 1) := by decide +kernel
theorem dX2_faultOfMove_2 : decode cX2_faultOfMove 2 = .ok (.invokevirtual 89, 3) := by decide +kernel
theorem dX2_faultOfMove_5 : decode cX2_faultOfMove 5 = .ok (.ifCond .eq 11, 3) := by decide +kernel
theorem dX2_faultOfMove_8 : decode cX2_faultOfMove 8 = .ok (.aload_n 0, 1) := by decide +kernel
theorem dX2_faultOfMove_9 : decode cX2_faultOfMove 9 = .ok (.iload_n 2, 1) := by decide +kernel
theorem dX2_faultOfMove_10 : decode cX2_faultOfMove 10 = .ok (.invokevirtual 89, 3) := by decide +kernel
theorem dX2_faultOfMove_13 : decode cX2_faultOfMove 13 = .ok (.ifCond .ne 5, 3) := by decide +kernel
theorem dX2_faultOfMove_16 : decode cX2_faultOfMove 16 = .ok (.iconst 1, 1) := by decide +kernel
theorem dX2_faultOfMove_17 : decode cX2_faultOfMove 17 = .ok (.ireturn, 1) := by decide +kernel
theorem dX2_faultOfMove_18 : decode cX2_faultOfMove 18 = .ok (.iload_n 3, 1) := by decide +kernel
theorem dX2_faultOfMove_19 : decode cX2_faultOfMove 19 = .ok (.iconst 1, 1) := by decide +kernel
theorem dX2_faultOfMove_20 : decode cX2_faultOfMove 20 = .ok (.if_icmp .lt 10, 3) := by decide +kernel
theorem dX2_faultOfMove_23 : decode cX2_faultOfMove 23 = .ok (.iload_n 3, 1) := by decide +kernel
theorem dX2_faultOfMove_24 : decode cX2_faultOfMove 24 = .ok (.sipush 9999, 3) := by decide +kernel
theorem dX2_faultOfMove_27 : decode cX2_faultOfMove 27 = .ok (.if_icmp .le 5, 3) := by decide +kernel
theorem dX2_faultOfMove_30 : decode cX2_faultOfMove 30 = .ok (.iconst 2, 1) := by decide +kernel
theorem dX2_faultOfMove_31 : decode cX2_faultOfMove 31 = .ok (.ireturn, 1) := by decide +kernel
theorem dX2_faultOfMove_32 : decode cX2_faultOfMove 32 = .ok (.iload_n 1, 1) := by decide +kernel
theorem dX2_faultOfMove_33 : decode cX2_faultOfMove 33 = .ok (.iload_n 2, 1) := by decide +kernel
theorem dX2_faultOfMove_34 : decode cX2_faultOfMove 34 = .ok (.if_icmp .eq 22, 3) := by decide +kernel
theorem dX2_faultOfMove_37 : decode cX2_faultOfMove 37 = .ok (.aload_n 0, 1) := by decide +kernel
theorem dX2_faultOfMove_38 : decode cX2_faultOfMove 38 = .ok (.getfield 9, 3) := by decide +kernel
theorem dX2_faultOfMove_41 : decode cX2_faultOfMove 41 = .ok (.iload_n 1, 1) := by decide +kernel
theorem dX2_faultOfMove_42 : decode cX2_faultOfMove 42 = .ok (.iaload, 1) := by decide +kernel
theorem dX2_faultOfMove_43 : decode cX2_faultOfMove 43 = .ok (.aload_n 0, 1) := by decide +kernel
theorem dX2_faultOfMove_44 : decode cX2_faultOfMove 44 = .ok (.getfield 9, 3) := by decide +kernel
theorem dX2_faultOfMove_47 : decode cX2_faultOfMove 47 = .ok (.iload_n 2, 1) := by decide +kernel
theorem dX2_faultOfMove_48 : decode cX2_faultOfMove 48 = .ok (.iaload, 1) := by decide +kernel
theorem dX2_faultOfMove_49 : decode cX2_faultOfMove 49 = .ok (.if_icmp .ne 7, 3) := by decide +kernel
theorem dX2_faultOfMove_52 : decode cX2_faultOfMove 52 = .ok (.iconst 1, 1) := by decide +kernel
theorem dX2_faultOfMove_53 : decode cX2_faultOfMove 53 = .ok (.goto 4, 3) := by decide +kernel
theorem dX2_faultOfMove_56 : decode cX2_faultOfMove 56 = .ok (.iconst 0, 1) := by decide +kernel
theorem dX2_faultOfMove_57 : decode cX2_faultOfMove 57 = .ok (.istore 4, 2) := by decide +kernel
theorem dX2_faultOfMove_59 : decode cX2_faultOfMove 59 = .ok (.iload 4, 2) := by decide +kernel
theorem dX2_faultOfMove_61 : decode cX2_faultOfMove 61 = .ok (.ifCond .eq 17, 3) := by decide +kernel
theorem dX2_faultOfMove_64 : decode cX2_faultOfMove 64 = .ok (.aload_n 0, 1) := by decide +kernel
theorem dX2_faultOfMove_65 : decode cX2_faultOfMove 65 = .ok (.getfield 18, 3) := by decide +kernel
theorem dX2_faultOfMove_68 : decode cX2_faultOfMove 68 = .ok (.iload_n 1, 1) := by decide +kernel
theorem dX2_faultOfMove_69 : decode cX2_faultOfMove 69 = .ok (.iaload, 1) := by decide +kernel
theorem dX2_faultOfMove_70 : decode cX2_faultOfMove 70 = .ok (.iload_n 3, 1) := by decide +kernel
theorem dX2_faultOfMove_71 : decode cX2_faultOfMove 71 = .ok (.if_icmp .lt 7, 3) := by decide +kernel
theorem dX2_faultOfMove_74 : decode cX2_faultOfMove 74 = .ok (.iconst 0, 1) := by decide +kernel
theorem dX2_faultOfMove_75 : decode cX2_faultOfMove 75 = .ok (.goto 4, 3) := by decide +kernel
theorem dX2_faultOfMove_78 : decode cX2_faultOfMove 78 = .ok (.iconst 3, 1) := by decide +kernel
theorem dX2_faultOfMove_79 : decode cX2_faultOfMove 79 = .ok (.ireturn, 1) := by decide +kernel
set_option maxRecDepth 20000 in
theorem ggX2_faultOfShare_X5_isFamily : GoodIn wsX2_faultOfShare wsX5_isFamily := goodIn_r _ [3] (by decide +kernel) (by decide +kernel)
set_option maxRecDepth 20000 in
theorem gX2_faultOfShare_X5_isFamily_n82 : GoodIn wsX2_faultOfShare (wsX5_isFamily) := ggX2_faultOfShare_X5_isFamily
theorem dX2_faultOfShare_0 : decode cX2_faultOfShare 0 = .ok (.iload_n 1, 1) := by decide +kernel
theorem dX2_faultOfShare_1 : decode cX2_faultOfShare 1 = .ok (.invokestatic 82, 3) := by decide +kernel
theorem dX2_faultOfShare_4 : decode cX2_faultOfShare 4 = .ok (.ifCond .eq 7, 3) := by decide +kernel
theorem dX2_faultOfShare_7 : decode cX2_faultOfShare 7 = .ok (.iconst 0, 1) := by decide +kernel
theorem dX2_faultOfShare_8 : decode cX2_faultOfShare 8 = .ok (.goto 4, 3) := by decide +kernel
theorem dX2_faultOfShare_11 : decode cX2_faultOfShare 11 = .ok (.iconst 1, 1) := by decide +kernel
theorem dX2_faultOfShare_12 : decode cX2_faultOfShare 12 = .ok (.ireturn, 1) := by decide +kernel
set_option maxRecDepth 20000 in
theorem ggX2_faultOfEntitle_X2_hasChild : GoodIn wsX2_faultOfEntitle wsX2_hasChild := goodIn_r _ [5, 6, 10, 11, 12, 13, 14, 15, 16, 17, 18, 19, 20, 21, 22, 23] (by decide +kernel) (by decide +kernel)
set_option maxRecDepth 20000 in
theorem gX2_faultOfEntitle_X2_hasChild : GoodIn wsX2_faultOfEntitle (wsV RX2 89 RX2 yX2_hasChild wsX2_hasChild) := goodIn_app (goodIn_of _ (by decide +kernel)) ggX2_faultOfEntitle_X2_hasChild
set_option maxRecDepth 20000 in
theorem ggX2_faultOfEntitle_X5_isDay : GoodIn wsX2_faultOfEntitle wsX5_isDay := goodIn_r _ [9] (by decide +kernel) (by decide +kernel)
set_option maxRecDepth 20000 in
theorem gX2_faultOfEntitle_X5_isDay_n86 : GoodIn wsX2_faultOfEntitle (wsX5_isDay) := ggX2_faultOfEntitle_X5_isDay
theorem dX2_faultOfEntitle_0 : decode cX2_faultOfEntitle 0 = .ok (.aload_n 0, 1) := by decide +kernel
theorem dX2_faultOfEntitle_1 : decode cX2_faultOfEntitle 1 = .ok (.iload_n 1, 1) := by decide +kernel
theorem dX2_faultOfEntitle_2 : decode cX2_faultOfEntitle 2 = .ok (.invokevirtual 89, 3) := by decide +kernel
theorem dX2_faultOfEntitle_5 : decode cX2_faultOfEntitle 5 = .ok (.ifCond .eq 10, 3) := by decide +kernel
theorem dX2_faultOfEntitle_8 : decode cX2_faultOfEntitle 8 = .ok (.iload_n 2, 1) := by decide +kernel
theorem dX2_faultOfEntitle_9 : decode cX2_faultOfEntitle 9 = .ok (.invokestatic 86, 3) := by decide +kernel
theorem dX2_faultOfEntitle_12 : decode cX2_faultOfEntitle 12 = .ok (.ifCond .ne 5, 3) := by decide +kernel
theorem dX2_faultOfEntitle_15 : decode cX2_faultOfEntitle 15 = .ok (.iconst 1, 1) := by decide +kernel
theorem dX2_faultOfEntitle_16 : decode cX2_faultOfEntitle 16 = .ok (.ireturn, 1) := by decide +kernel
theorem dX2_faultOfEntitle_17 : decode cX2_faultOfEntitle 17 = .ok (.iload_n 3, 1) := by decide +kernel
theorem dX2_faultOfEntitle_18 : decode cX2_faultOfEntitle 18 = .ok (.iconst (-1), 1) := by decide +kernel
theorem dX2_faultOfEntitle_19 : decode cX2_faultOfEntitle 19 = .ok (.if_icmp .eq 15, 3) := by decide +kernel
theorem dX2_faultOfEntitle_22 : decode cX2_faultOfEntitle 22 = .ok (.iload_n 3, 1) := by decide +kernel
theorem dX2_faultOfEntitle_23 : decode cX2_faultOfEntitle 23 = .ok (.iload_n 2, 1) := by decide +kernel
theorem dX2_faultOfEntitle_24 : decode cX2_faultOfEntitle 24 = .ok (.if_icmp .lt 14, 3) := by decide +kernel
theorem dX2_faultOfEntitle_27 : decode cX2_faultOfEntitle 27 = .ok (.iload_n 3, 1) := by decide +kernel
theorem dX2_faultOfEntitle_28 : decode cX2_faultOfEntitle 28 = .ok (.invokestatic 86, 3) := by decide +kernel
theorem dX2_faultOfEntitle_31 : decode cX2_faultOfEntitle 31 = .ok (.ifCond .eq 7, 3) := by decide +kernel
theorem dX2_faultOfEntitle_34 : decode cX2_faultOfEntitle 34 = .ok (.iconst 0, 1) := by decide +kernel
theorem dX2_faultOfEntitle_35 : decode cX2_faultOfEntitle 35 = .ok (.goto 4, 3) := by decide +kernel
theorem dX2_faultOfEntitle_38 : decode cX2_faultOfEntitle 38 = .ok (.iconst 2, 1) := by decide +kernel
theorem dX2_faultOfEntitle_39 : decode cX2_faultOfEntitle 39 = .ok (.ireturn, 1) := by decide +kernel
set_option maxRecDepth 20000 in
theorem ggX2_faultOfWriteOff_X5_isFamily : GoodIn wsX2_faultOfWriteOff wsX5_isFamily := goodIn_r _ [3] (by decide +kernel) (by decide +kernel)
set_option maxRecDepth 20000 in
theorem gX2_faultOfWriteOff_X5_isFamily_n82 : GoodIn wsX2_faultOfWriteOff (wsX5_isFamily) := ggX2_faultOfWriteOff_X5_isFamily
set_option maxRecDepth 20000 in
theorem ggX2_faultOfWriteOff_X2_debtOf : GoodIn wsX2_faultOfWriteOff wsX2_debtOf := goodIn_r _ [8, 9, 10, 11, 12, 13, 14, 15, 16, 17, 18, 19, 20, 21, 22, 23, 24, 25] (by decide +kernel) (by decide +kernel)
set_option maxRecDepth 20000 in
theorem gX2_faultOfWriteOff_X2_debtOf : GoodIn wsX2_faultOfWriteOff (wsV RX2 92 RX2 yX2_debtOf wsX2_debtOf) := goodIn_app (goodIn_of _ (by decide +kernel)) ggX2_faultOfWriteOff_X2_debtOf
theorem dX2_faultOfWriteOff_0 : decode cX2_faultOfWriteOff 0 = .ok (.iload_n 1, 1) := by decide +kernel
theorem dX2_faultOfWriteOff_1 : decode cX2_faultOfWriteOff 1 = .ok (.invokestatic 82, 3) := by decide +kernel
theorem dX2_faultOfWriteOff_4 : decode cX2_faultOfWriteOff 4 = .ok (.ifCond .ne 5, 3) := by decide +kernel
theorem dX2_faultOfWriteOff_7 : decode cX2_faultOfWriteOff 7 = .ok (.iconst 1, 1) := by decide +kernel
theorem dX2_faultOfWriteOff_8 : decode cX2_faultOfWriteOff 8 = .ok (.ireturn, 1) := by decide +kernel
theorem dX2_faultOfWriteOff_9 : decode cX2_faultOfWriteOff 9 = .ok (.aload_n 0, 1) := by decide +kernel
theorem dX2_faultOfWriteOff_10 : decode cX2_faultOfWriteOff 10 = .ok (.iload_n 1, 1) := by decide +kernel
theorem dX2_faultOfWriteOff_11 : decode cX2_faultOfWriteOff 11 = .ok (.invokevirtual 92, 3) := by decide +kernel
theorem dX2_faultOfWriteOff_14 : decode cX2_faultOfWriteOff 14 = .ok (.ifCond .ne 7, 3) := by decide +kernel
theorem dX2_faultOfWriteOff_17 : decode cX2_faultOfWriteOff 17 = .ok (.iconst 3, 1) := by decide +kernel
theorem dX2_faultOfWriteOff_18 : decode cX2_faultOfWriteOff 18 = .ok (.goto 4, 3) := by decide +kernel
theorem dX2_faultOfWriteOff_21 : decode cX2_faultOfWriteOff 21 = .ok (.iconst 0, 1) := by decide +kernel
theorem dX2_faultOfWriteOff_22 : decode cX2_faultOfWriteOff 22 = .ok (.ireturn, 1) := by decide +kernel
set_option maxRecDepth 20000 in
theorem ggX2_faultOfDays_X2_daysLeft : GoodIn wsX2_faultOfDays wsX2_daysLeft := goodIn_r _ [5, 6, 7, 8, 9, 10, 11, 12, 13, 14, 15, 16, 17, 18, 19, 20] (by decide +kernel) (by decide +kernel)
set_option maxRecDepth 20000 in
theorem gX2_faultOfDays_X2_daysLeft : GoodIn wsX2_faultOfDays (wsV RX2 96 RX2 yX2_daysLeft wsX2_daysLeft) := goodIn_app (goodIn_of _ (by decide +kernel)) ggX2_faultOfDays_X2_daysLeft
theorem dX2_faultOfDays_0 : decode cX2_faultOfDays 0 = .ok (.iload_n 1, 1) := by decide +kernel
theorem dX2_faultOfDays_1 : decode cX2_faultOfDays 1 = .ok (.iconst 1, 1) := by decide +kernel
theorem dX2_faultOfDays_2 : decode cX2_faultOfDays 2 = .ok (.if_icmp .lt 9, 3) := by decide +kernel
theorem dX2_faultOfDays_5 : decode cX2_faultOfDays 5 = .ok (.iload_n 1, 1) := by decide +kernel
theorem dX2_faultOfDays_6 : decode cX2_faultOfDays 6 = .ok (.bipush 40, 2) := by decide +kernel
theorem dX2_faultOfDays_8 : decode cX2_faultOfDays 8 = .ok (.if_icmp .le 5, 3) := by decide +kernel
theorem dX2_faultOfDays_11 : decode cX2_faultOfDays 11 = .ok (.iconst 2, 1) := by decide +kernel
theorem dX2_faultOfDays_12 : decode cX2_faultOfDays 12 = .ok (.ireturn, 1) := by decide +kernel
theorem dX2_faultOfDays_13 : decode cX2_faultOfDays 13 = .ok (.iload_n 1, 1) := by decide +kernel
theorem dX2_faultOfDays_14 : decode cX2_faultOfDays 14 = .ok (.aload_n 0, 1) := by decide +kernel
theorem dX2_faultOfDays_15 : decode cX2_faultOfDays 15 = .ok (.invokevirtual 96, 3) := by decide +kernel
theorem dX2_faultOfDays_18 : decode cX2_faultOfDays 18 = .ok (.if_icmp .le 7, 3) := by decide +kernel
theorem dX2_faultOfDays_21 : decode cX2_faultOfDays 21 = .ok (.iconst 3, 1) := by decide +kernel
theorem dX2_faultOfDays_22 : decode cX2_faultOfDays 22 = .ok (.goto 4, 3) := by decide +kernel
theorem dX2_faultOfDays_25 : decode cX2_faultOfDays 25 = .ok (.iconst 0, 1) := by decide +kernel
theorem dX2_faultOfDays_26 : decode cX2_faultOfDays 26 = .ok (.ireturn, 1) := by decide +kernel
theorem dX2_addChild_0 : decode cX2_addChild 0 = .ok (.aload_n 0, 1) := by decide +kernel
theorem dX2_addChild_1 : decode cX2_addChild 1 = .ok (.getfield 53, 3) := by decide +kernel
theorem dX2_addChild_4 : decode cX2_addChild 4 = .ok (.istore_n 3, 1) := by decide +kernel
theorem dX2_addChild_5 : decode cX2_addChild 5 = .ok (.aload_n 0, 1) := by decide +kernel
theorem dX2_addChild_6 : decode cX2_addChild 6 = .ok (.getfield 9, 3) := by decide +kernel
theorem dX2_addChild_9 : decode cX2_addChild 9 = .ok (.iload_n 3, 1) := by decide +kernel
theorem dX2_addChild_10 : decode cX2_addChild 10 = .ok (.iload_n 1, 1) := by decide +kernel
theorem dX2_addChild_11 : decode cX2_addChild 11 = .ok (.iastore, 1) := by decide +kernel
theorem dX2_addChild_12 : decode cX2_addChild 12 = .ok (.aload_n 0, 1) := by decide +kernel
theorem dX2_addChild_13 : decode cX2_addChild 13 = .ok (.getfield 15, 3) := by decide +kernel
theorem dX2_addChild_16 : decode cX2_addChild 16 = .ok (.iload_n 3, 1) := by decide +kernel
theorem dX2_addChild_17 : decode cX2_addChild 17 = .ok (.iload_n 2, 1) := by decide +kernel
theorem dX2_addChild_18 : decode cX2_addChild 18 = .ok (.iastore, 1) := by decide +kernel
theorem dX2_addChild_19 : decode cX2_addChild 19 = .ok (.aload_n 0, 1) := by decide +kernel
theorem dX2_addChild_20 : decode cX2_addChild 20 = .ok (.getfield 18, 3) := by decide +kernel
theorem dX2_addChild_23 : decode cX2_addChild 23 = .ok (.iload_n 3, 1) := by decide +kernel
theorem dX2_addChild_24 : decode cX2_addChild 24 = .ok (.iconst 0, 1) := by decide +kernel
theorem dX2_addChild_25 : decode cX2_addChild 25 = .ok (.iastore, 1) := by decide +kernel
theorem dX2_addChild_26 : decode cX2_addChild 26 = .ok (.aload_n 0, 1) := by decide +kernel
theorem dX2_addChild_27 : decode cX2_addChild 27 = .ok (.getfield 21, 3) := by decide +kernel
theorem dX2_addChild_30 : decode cX2_addChild 30 = .ok (.iload_n 3, 1) := by decide +kernel
theorem dX2_addChild_31 : decode cX2_addChild 31 = .ok (.iconst (-1), 1) := by decide +kernel
theorem dX2_addChild_32 : decode cX2_addChild 32 = .ok (.iastore, 1) := by decide +kernel
theorem dX2_addChild_33 : decode cX2_addChild 33 = .ok (.aload_n 0, 1) := by decide +kernel
theorem dX2_addChild_34 : decode cX2_addChild 34 = .ok (.getfield 24, 3) := by decide +kernel
theorem dX2_addChild_37 : decode cX2_addChild 37 = .ok (.iload_n 3, 1) := by decide +kernel
theorem dX2_addChild_38 : decode cX2_addChild 38 = .ok (.iconst (-1), 1) := by decide +kernel
theorem dX2_addChild_39 : decode cX2_addChild 39 = .ok (.iastore, 1) := by decide +kernel
theorem dX2_addChild_40 : decode cX2_addChild 40 = .ok (.aload_n 0, 1) := by decide +kernel
theorem dX2_addChild_41 : decode cX2_addChild 41 = .ok (.iload_n 3, 1) := by decide +kernel
theorem dX2_addChild_42 : decode cX2_addChild 42 = .ok (.iconst 1, 1) := by decide +kernel
theorem dX2_addChild_43 : decode cX2_addChild 43 = .ok (.iadd, 1) := by decide +kernel
theorem dX2_addChild_44 : decode cX2_addChild 44 = .ok (.putfield 53, 3) := by decide +kernel
theorem dX2_addChild_47 : decode cX2_addChild 47 = .ok (.iload_n 3, 1) := by decide +kernel
theorem dX2_addChild_48 : decode cX2_addChild 48 = .ok (.ireturn, 1) := by decide +kernel
theorem dX2_changeMenu_0 : decode cX2_changeMenu 0 = .ok (.aload_n 0, 1) := by decide +kernel
theorem dX2_changeMenu_1 : decode cX2_changeMenu 1 = .ok (.getfield 27, 3) := by decide +kernel
theorem dX2_changeMenu_4 : decode cX2_changeMenu 4 = .ok (.iload_n 1, 1) := by decide +kernel
theorem dX2_changeMenu_5 : decode cX2_changeMenu 5 = .ok (.iaload, 1) := by decide +kernel
theorem dX2_changeMenu_6 : decode cX2_changeMenu 6 = .ok (.istore_n 3, 1) := by decide +kernel
theorem dX2_changeMenu_7 : decode cX2_changeMenu 7 = .ok (.aload_n 0, 1) := by decide +kernel
theorem dX2_changeMenu_8 : decode cX2_changeMenu 8 = .ok (.getfield 27, 3) := by decide +kernel
theorem dX2_changeMenu_11 : decode cX2_changeMenu 11 = .ok (.iload_n 1, 1) := by decide +kernel
theorem dX2_changeMenu_12 : decode cX2_changeMenu 12 = .ok (.iload_n 2, 1) := by decide +kernel
theorem dX2_changeMenu_13 : decode cX2_changeMenu 13 = .ok (.iastore, 1) := by decide +kernel
theorem dX2_changeMenu_14 : decode cX2_changeMenu 14 = .ok (.iload_n 3, 1) := by decide +kernel
theorem dX2_changeMenu_15 : decode cX2_changeMenu 15 = .ok (.ireturn, 1) := by decide +kernel
set_option maxRecDepth 20000 in
theorem ggX2_changeOrder_X3_put : GoodIn wsX2_changeOrder wsX3_put := goodIn_r _ [6, 7, 8, 9, 5, 10, 37, 38, 39] (by decide +kernel) (by decide +kernel)
set_option maxRecDepth 20000 in
theorem gX2_changeOrder_X3_put : GoodIn wsX2_changeOrder (wsV RX2 100 RX3 yX3_put wsX3_put) := goodIn_app (goodIn_of _ (by decide +kernel)) ggX2_changeOrder_X3_put
set_option maxRecDepth 20000 in
theorem ggX2_changeOrder_X3_countOrderedOn : GoodIn wsX2_changeOrder wsX3_countOrderedOn := goodIn_r _ [14, 15, 16, 17, 5, 18, 19, 20, 21, 22, 7, 8, 9, 10, 37, 38, 39] (by decide +kernel) (by decide +kernel)
set_option maxRecDepth 20000 in
theorem gX2_changeOrder_X3_countOrderedOn : GoodIn wsX2_changeOrder (wsV RX2 104 RX3 yX3_countOrderedOn wsX3_countOrderedOn) := goodIn_app (goodIn_of _ (by decide +kernel)) ggX2_changeOrder_X3_countOrderedOn
theorem dX2_changeOrder_0 : decode cX2_changeOrder 0 = .ok (.aload_n 0, 1) := by decide +kernel
theorem dX2_changeOrder_1 : decode cX2_changeOrder 1 = .ok (.getfield 39, 3) := by decide +kernel
theorem dX2_changeOrder_4 : decode cX2_changeOrder 4 = .ok (.iload_n 1, 1) := by decide +kernel
theorem dX2_changeOrder_5 : decode cX2_changeOrder 5 = .ok (.iload_n 2, 1) := by decide +kernel
theorem dX2_changeOrder_6 : decode cX2_changeOrder 6 = .ok (.iload_n 3, 1) := by decide +kernel
theorem dX2_changeOrder_7 : decode cX2_changeOrder 7 = .ok (.ifCond .eq 7, 3) := by decide +kernel
theorem dX2_changeOrder_10 : decode cX2_changeOrder 10 = .ok (.iconst 1, 1) := by decide +kernel
theorem dX2_changeOrder_11 : decode cX2_changeOrder 11 = .ok (.goto 4, 3) := by decide +kernel
theorem dX2_changeOrder_14 : decode cX2_changeOrder 14 = .ok (.iconst 0, 1) := by decide +kernel
theorem dX2_changeOrder_15 : decode cX2_changeOrder 15 = .ok (.invokevirtual 100, 3) := by decide +kernel
theorem dX2_changeOrder_18 : decode cX2_changeOrder 18 = .ok (.aload_n 0, 1) := by decide +kernel
theorem dX2_changeOrder_19 : decode cX2_changeOrder 19 = .ok (.getfield 39, 3) := by decide +kernel
theorem dX2_changeOrder_22 : decode cX2_changeOrder 22 = .ok (.iload_n 2, 1) := by decide +kernel
theorem dX2_changeOrder_23 : decode cX2_changeOrder 23 = .ok (.invokevirtual 104, 3) := by decide +kernel
theorem dX2_changeOrder_26 : decode cX2_changeOrder 26 = .ok (.ireturn, 1) := by decide +kernel
theorem dX2_payIn_0 : decode cX2_payIn 0 = .ok (.aload_n 0, 1) := by decide +kernel
theorem dX2_payIn_1 : decode cX2_payIn 1 = .ok (.dup, 1) := by decide +kernel
theorem dX2_payIn_2 : decode cX2_payIn 2 = .ok (.getfield 56, 3) := by decide +kernel
theorem dX2_payIn_5 : decode cX2_payIn 5 = .ok (.iload_n 2, 1) := by decide +kernel
theorem dX2_payIn_6 : decode cX2_payIn 6 = .ok (.iadd, 1) := by decide +kernel
theorem dX2_payIn_7 : decode cX2_payIn 7 = .ok (.putfield 56, 3) := by decide +kernel
theorem dX2_payIn_10 : decode cX2_payIn 10 = .ok (.aload_n 0, 1) := by decide +kernel
theorem dX2_payIn_11 : decode cX2_payIn 11 = .ok (.getfield 18, 3) := by decide +kernel
theorem dX2_payIn_14 : decode cX2_payIn 14 = .ok (.iload_n 1, 1) := by decide +kernel
theorem dX2_payIn_15 : decode cX2_payIn 15 = .ok (.dup2, 1) := by decide +kernel
theorem dX2_payIn_16 : decode cX2_payIn 16 = .ok (.iaload, 1) := by decide +kernel
theorem dX2_payIn_17 : decode cX2_payIn 17 = .ok (.iload_n 2, 1) := by decide +kernel
theorem dX2_payIn_18 : decode cX2_payIn 18 = .ok (.iadd, 1) := by decide +kernel
theorem dX2_payIn_19 : decode cX2_payIn 19 = .ok (.iastore, 1) := by decide +kernel
theorem dX2_payIn_20 : decode cX2_payIn 20 = .ok (.aload_n 0, 1) := by decide +kernel
theorem dX2_payIn_21 : decode cX2_payIn 21 = .ok (.getfield 18, 3) := by decide +kernel
theorem dX2_payIn_24 : decode cX2_payIn 24 = .ok (.iload_n 1, 1) := by decide +kernel
theorem dX2_payIn_25 : decode cX2_payIn 25 = .ok (.iaload, 1) := by decide +kernel
theorem dX2_payIn_26 : decode cX2_payIn 26 = .ok (.ireturn, 1) := by decide +kernel
theorem dX2_moveBetween_0 : decode cX2_moveBetween 0 = .ok (.aload_n 0, 1) := by decide +kernel
theorem dX2_moveBetween_1 : decode cX2_moveBetween 1 = .ok (.getfield 18, 3) := by decide +kernel
theorem dX2_moveBetween_4 : decode cX2_moveBetween 4 = .ok (.iload_n 2, 1) := by decide +kernel
theorem dX2_moveBetween_5 : decode cX2_moveBetween 5 = .ok (.dup2, 1) := by decide +kernel
theorem dX2_moveBetween_6 : decode cX2_moveBetween 6 = .ok (.iaload, 1) := by decide +kernel
theorem dX2_moveBetween_7 : decode cX2_moveBetween 7 = .ok (.iload_n 3, 1) := by decide +kernel
theorem dX2_moveBetween_8 : decode cX2_moveBetween 8 = .ok (.iadd, 1) := by decide +kernel
theorem dX2_moveBetween_9 : decode cX2_moveBetween 9 = .ok (.iastore, 1) := by decide +kernel
theorem dX2_moveBetween_10 : decode cX2_moveBetween 10 = .ok (.aload_n 0, 1) := by decide +kernel
theorem dX2_moveBetween_11 : decode cX2_moveBetween 11 = .ok (.getfield 18, 3) := by decide +kernel
theorem dX2_moveBetween_14 : decode cX2_moveBetween 14 = .ok (.iload_n 1, 1) := by decide +kernel
theorem dX2_moveBetween_15 : decode cX2_moveBetween 15 = .ok (.dup2, 1) := by decide +kernel
theorem dX2_moveBetween_16 : decode cX2_moveBetween 16 = .ok (.iaload, 1) := by decide +kernel
theorem dX2_moveBetween_17 : decode cX2_moveBetween 17 = .ok (.iload_n 3, 1) := by decide +kernel
theorem dX2_moveBetween_18 : decode cX2_moveBetween 18 = .ok (.isub, 1) := by decide +kernel
theorem dX2_moveBetween_19 : decode cX2_moveBetween 19 = .ok (.iastore, 1) := by decide +kernel
theorem dX2_moveBetween_20 : decode cX2_moveBetween 20 = .ok (.aload_n 0, 1) := by decide +kernel
theorem dX2_moveBetween_21 : decode cX2_moveBetween 21 = .ok (.getfield 18, 3) := by decide +kernel
theorem dX2_moveBetween_24 : decode cX2_moveBetween 24 = .ok (.iload_n 1, 1) := by decide +kernel
theorem dX2_moveBetween_25 : decode cX2_moveBetween 25 = .ok (.iaload, 1) := by decide +kernel
theorem dX2_moveBetween_26 : decode cX2_moveBetween 26 = .ok (.ireturn, 1) := by decide +kernel
set_option maxRecDepth 20000 in
theorem ggX2_changeSharing_X2_sumOfBalancesOf : GoodIn wsX2_changeSharing wsX2_sumOfBalancesOf := goodIn_r _ [6, 7, 8, 9, 10, 11, 12, 13, 14, 15, 16, 17, 18, 19, 20, 21, 22, 23] (by decide +kernel) (by decide +kernel)
set_option maxRecDepth 20000 in
theorem gX2_changeSharing_X2_sumOfBalancesOf : GoodIn wsX2_changeSharing (wsV RX2 107 RX2 yX2_sumOfBalancesOf wsX2_sumOfBalancesOf) := goodIn_app (goodIn_of _ (by decide +kernel)) ggX2_changeSharing_X2_sumOfBalancesOf
theorem dX2_changeSharing_0 : decode cX2_changeSharing 0 = .ok (.aload_n 0, 1) := by decide +kernel
theorem dX2_changeSharing_1 : decode cX2_changeSharing 1 = .ok (.getfield 30, 3) := by decide +kernel
theorem dX2_changeSharing_4 : decode cX2_changeSharing 4 = .ok (.iload_n 1, 1) := by decide +kernel
theorem dX2_changeSharing_5 : decode cX2_changeSharing 5 = .ok (.iload_n 2, 1) := by decide +kernel
theorem dX2_changeSharing_6 : decode cX2_changeSharing 6 = .ok (.ifCond .eq 7, 3) := by decide +kernel
theorem dX2_changeSharing_9 : decode cX2_changeSharing 9 = .ok (.iconst 1, 1) := by decide +kernel
theorem dX2_changeSharing_10 : decode cX2_changeSharing 10 = .ok (.goto 4, 3) := by decide +kernel
theorem dX2_changeSharing_13 : decode cX2_changeSharing 13 = .ok (.iconst 0, 1) := by decide +kernel
theorem dX2_changeSharing_14 : decode cX2_changeSharing 14 = .ok (.iastore, 1) := by decide +kernel
theorem dX2_changeSharing_15 : decode cX2_changeSharing 15 = .ok (.aload_n 0, 1) := by decide +kernel
theorem dX2_changeSharing_16 : decode cX2_changeSharing 16 = .ok (.iload_n 1, 1) := by decide +kernel
theorem dX2_changeSharing_17 : decode cX2_changeSharing 17 = .ok (.invokevirtual 107, 3) := by decide +kernel
theorem dX2_changeSharing_20 : decode cX2_changeSharing 20 = .ok (.ireturn, 1) := by decide +kernel
set_option maxRecDepth 20000 in
theorem ggX2_changeEntitlement_X2_sumOfBalances : GoodIn wsX2_changeEntitlement wsX2_sumOfBalances := goodIn_r _ [8, 9, 10, 48, 49, 50, 51, 52, 53, 54, 55, 56, 57, 58, 59, 60, 61] (by decide +kernel) (by decide +kernel)
set_option maxRecDepth 20000 in
theorem gX2_changeEntitlement_X2_sumOfBalances : GoodIn wsX2_changeEntitlement (wsV RX2 110 RX2 yX2_sumOfBalances wsX2_sumOfBalances) := goodIn_app (goodIn_of _ (by decide +kernel)) ggX2_changeEntitlement_X2_sumOfBalances
set_option maxRecDepth 20000 in
theorem ggX2_changeEntitlement_X2_settleAgain : GoodIn wsX2_changeEntitlement wsX2_settleAgain := goodIn_r _ [14, 15, 10, 16, 17, 18, 19, 20, 21, 22, 23, 24, 25, 26, 27, 28, 29, 7, 30, 1, 2, 31, 32, 33, 34, 35, 36, 37, 38, 39, 40, 41, 42, 43, 44, 45, 46, 47, 48, 49, 50, 51, 52, 53, 54, 55, 56, 57, 58, 59, 60, 61, 62, 63, 64] (by decide +kernel) (by decide +kernel)
set_option maxRecDepth 20000 in
theorem gX2_changeEntitlement_X2_settleAgain : GoodIn wsX2_changeEntitlement (wsV RX2 113 RX2 yX2_settleAgain wsX2_settleAgain) := goodIn_app (goodIn_of _ (by decide +kernel)) ggX2_changeEntitlement_X2_settleAgain
theorem dX2_changeEntitlement_0 : decode cX2_changeEntitlement 0 = .ok (.aload_n 0, 1) := by decide +kernel
theorem dX2_changeEntitlement_1 : decode cX2_changeEntitlement 1 = .ok (.invokevirtual 110, 3) := by decide +kernel
theorem dX2_changeEntitlement_4 : decode cX2_changeEntitlement 4 = .ok (.istore 4, 2) := by decide +kernel
theorem dX2_changeEntitlement_6 : decode cX2_changeEntitlement 6 = .ok (.aload_n 0, 1) := by decide +kernel
theorem dX2_changeEntitlement_7 : decode cX2_changeEntitlement 7 = .ok (.getfield 21, 3) := by decide +kernel
theorem dX2_changeEntitlement_10 : decode cX2_changeEntitlement 10 = .ok (.iload_n 1, 1) := by decide +kernel
theorem dX2_changeEntitlement_11 : decode cX2_changeEntitlement 11 = .ok (.iload_n 3, 1) := by decide +kernel
theorem dX2_changeEntitlement_12 : decode cX2_changeEntitlement 12 = .ok (.iconst (-1), 1) := by decide +kernel
theorem dX2_changeEntitlement_13 : decode cX2_changeEntitlement 13 = .ok (.if_icmp .ne 7, 3) := by decide +kernel
theorem dX2_changeEntitlement_16 : decode cX2_changeEntitlement 16 = .ok (.iconst (-1), 1) := by decide +kernel
theorem dX2_changeEntitlement_17 : decode cX2_changeEntitlement 17 = .ok (.goto 4, 3) := by decide +kernel
theorem dX2_changeEntitlement_20 : decode cX2_changeEntitlement 20 = .ok (.iload_n 2, 1) := by decide +kernel
theorem dX2_changeEntitlement_21 : decode cX2_changeEntitlement 21 = .ok (.iastore, 1) := by decide +kernel
theorem dX2_changeEntitlement_22 : decode cX2_changeEntitlement 22 = .ok (.aload_n 0, 1) := by decide +kernel
theorem dX2_changeEntitlement_23 : decode cX2_changeEntitlement 23 = .ok (.getfield 24, 3) := by decide +kernel
theorem dX2_changeEntitlement_26 : decode cX2_changeEntitlement 26 = .ok (.iload_n 1, 1) := by decide +kernel
theorem dX2_changeEntitlement_27 : decode cX2_changeEntitlement 27 = .ok (.iload_n 3, 1) := by decide +kernel
theorem dX2_changeEntitlement_28 : decode cX2_changeEntitlement 28 = .ok (.iastore, 1) := by decide +kernel
theorem dX2_changeEntitlement_29 : decode cX2_changeEntitlement 29 = .ok (.iconst 0, 1) := by decide +kernel
theorem dX2_changeEntitlement_30 : decode cX2_changeEntitlement 30 = .ok (.istore 5, 2) := by decide +kernel
theorem dX2_changeEntitlement_32 : decode cX2_changeEntitlement 32 = .ok (.iload 5, 2) := by decide +kernel
theorem dX2_changeEntitlement_34 : decode cX2_changeEntitlement 34 = .ok (.aload_n 0, 1) := by decide +kernel
theorem dX2_changeEntitlement_35 : decode cX2_changeEntitlement 35 = .ok (.getfield 50, 3) := by decide +kernel
theorem dX2_changeEntitlement_38 : decode cX2_changeEntitlement 38 = .ok (.if_icmp .ge 16, 3) := by decide +kernel
theorem dX2_changeEntitlement_41 : decode cX2_changeEntitlement 41 = .ok (.aload_n 0, 1) := by decide +kernel
theorem dX2_changeEntitlement_42 : decode cX2_changeEntitlement 42 = .ok (.iload_n 1, 1) := by decide +kernel
theorem dX2_changeEntitlement_43 : decode cX2_changeEntitlement 43 = .ok (.iload 5, 2) := by decide +kernel
theorem dX2_changeEntitlement_45 : decode cX2_changeEntitlement 45 = .ok (.invokevirtual 113, 3) := by decide +kernel
theorem dX2_changeEntitlement_48 : decode cX2_changeEntitlement 48 = .ok (.iinc 5 1, 3) := by decide +kernel
theorem dX2_changeEntitlement_51 : decode cX2_changeEntitlement 51 = .ok (.goto (-19), 3) := by decide +kernel
theorem dX2_changeEntitlement_54 : decode cX2_changeEntitlement 54 = .ok (.aload_n 0, 1) := by decide +kernel
theorem dX2_changeEntitlement_55 : decode cX2_changeEntitlement 55 = .ok (.invokevirtual 110, 3) := by decide +kernel
theorem dX2_changeEntitlement_58 : decode cX2_changeEntitlement 58 = .ok (.iload 4, 2) := by decide +kernel
theorem dX2_changeEntitlement_60 : decode cX2_changeEntitlement 60 = .ok (.isub, 1) := by decide +kernel
theorem dX2_changeEntitlement_61 : decode cX2_changeEntitlement 61 = .ok (.ireturn, 1) := by decide +kernel
set_option maxRecDepth 20000 in
theorem ggX2_settleAgain_X3_payerOf : GoodIn wsX2_settleAgain wsX3_payerOf := goodIn_r _ [8, 9, 10, 11, 12, 7, 13, 52, 53, 54] (by decide +kernel) (by decide +kernel)
set_option maxRecDepth 20000 in
theorem gX2_settleAgain_X3_payerOf : GoodIn wsX2_settleAgain (wsV RX2 117 RX3 yX3_payerOf wsX3_payerOf) := goodIn_app (goodIn_of _ (by decide +kernel)) ggX2_settleAgain_X3_payerOf
set_option maxRecDepth 20000 in
theorem ggX2_settleAgain_X2_isEntitled : GoodIn wsX2_settleAgain wsX2_isEntitled := goodIn_r _ [18, 19, 20, 38, 39, 40, 41, 42, 43, 44, 45, 46, 47, 48, 49, 50, 51] (by decide +kernel) (by decide +kernel)
set_option maxRecDepth 20000 in
theorem gX2_settleAgain_X2_isEntitled : GoodIn wsX2_settleAgain (wsV RX2 121 RX2 yX2_isEntitled wsX2_isEntitled) := goodIn_app (goodIn_of _ (by decide +kernel)) ggX2_settleAgain_X2_isEntitled
set_option maxRecDepth 20000 in
theorem ggX2_settleAgain_X3_chargeOf : GoodIn wsX2_settleAgain wsX3_chargeOf := goodIn_r _ [24, 9, 25, 11, 12, 7, 13, 52, 53, 54] (by decide +kernel) (by decide +kernel)
set_option maxRecDepth 20000 in
theorem gX2_settleAgain_X3_chargeOf : GoodIn wsX2_settleAgain (wsV RX2 125 RX3 yX3_chargeOf wsX3_chargeOf) := goodIn_app (goodIn_of _ (by decide +kernel)) ggX2_settleAgain_X3_chargeOf
set_option maxRecDepth 20000 in
theorem ggX2_settleAgain_X3_put : GoodIn wsX2_settleAgain wsX3_put := goodIn_r _ [29, 9, 11, 12, 7, 13, 52, 53, 54] (by decide +kernel) (by decide +kernel)
set_option maxRecDepth 20000 in
theorem gX2_settleAgain_X3_put : GoodIn wsX2_settleAgain (wsV RX2 100 RX3 yX3_put wsX3_put) := goodIn_app (goodIn_of _ (by decide +kernel)) ggX2_settleAgain_X3_put
