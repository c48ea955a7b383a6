theorem dX6_number_30 : decode cX6_number 30 = .ok (.ifCond .le 98, 3) := by decide +kernel
theorem dX6_number_33 : decode cX6_number 33 = .ok (.aload_n 0, 1) := by decide +kernel
theorem dX6_number_34 : decode cX6_number 34 = .ok (.getfield 95, 3) := by decide +kernel
theorem dX6_number_37 : decode cX6_number 37 = .ok (.aload_n 0, 1) := by decide +kernel
theorem dX6_number_38 : decode cX6_number 38 = .ok (.getfield 89, 3) := by decide +kernel
theorem dX6_number_41 : decode cX6_number 41 = .ok (.if_icmp .ge 18, 3) := by decide +kernel
theorem dX6_number_44 : decode cX6_number 44 = .ok (.aload_n 0, 1) := by decide +kernel
theorem dX6_number_45 : decode cX6_number 45 = .ok (.getfield 7, 3) := by decide +kernel
theorem dX6_number_48 : decode cX6_number 48 = .ok (.aload_n 0, 1) := by decide +kernel
theorem dX6_number_49 : decode cX6_number 49 = .ok (.getfield 95, 3) := by decide +kernel
theorem dX6_number_52 : decode cX6_number 52 = .ok (.iaload, 1) := by decide +kernel
theorem dX6_number_53 : decode cX6_number 53 = .ok (.bipush 48, 2) := by decide +kernel
theorem dX6_number_55 : decode cX6_number 55 = .ok (.isub, 1) := by decide +kernel
theorem dX6_number_56 : decode cX6_number 56 = .ok (.goto 4, 3) := by decide +kernel
theorem dX6_number_59 : decode cX6_number 59 = .ok (.iconst (-1), 1) := by decide +kernel
theorem dX6_number_60 : decode cX6_number 60 = .ok (.istore 6, 2) := by decide +kernel
theorem dX6_number_62 : decode cX6_number 62 = .ok (.iload 4, 2) := by decide +kernel
theorem dX6_number_64 : decode cX6_number 64 = .ok (.iload 6, 2) := by decide +kernel
theorem dX6_number_66 : decode cX6_number 66 = .ok (.iload 5, 2) := by decide +kernel
theorem dX6_number_68 : decode cX6_number 68 = .ok (.imul, 1) := by decide +kernel
theorem dX6_number_69 : decode cX6_number 69 = .ok (.iadd, 1) := by decide +kernel
theorem dX6_number_70 : decode cX6_number 70 = .ok (.istore 7, 2) := by decide +kernel
theorem dX6_number_72 : decode cX6_number 72 = .ok (.iload 6, 2) := by decide +kernel
theorem dX6_number_74 : decode cX6_number 74 = .ok (.i2l, 1) := by decide +kernel
theorem dX6_number_75 : decode cX6_number 75 = .ok (.lconst 0, 1) := by decide +kernel
theorem dX6_number_76 : decode cX6_number 76 = .ok (.ldc2_w 98, 3) := by decide +kernel
theorem dX6_number_79 : decode cX6_number 79 = .ok (.invokestatic 37, 3) := by decide +kernel
theorem dX6_number_82 : decode cX6_number 82 = .ok (.ifCond .eq 20, 3) := by decide +kernel
theorem dX6_number_85 : decode cX6_number 85 = .ok (.iload 7, 2) := by decide +kernel
theorem dX6_number_87 : decode cX6_number 87 = .ok (.iload_n 3, 1) := by decide +kernel
theorem dX6_number_88 : decode cX6_number 88 = .ok (.if_icmp .gt 14, 3) := by decide +kernel
theorem dX6_number_91 : decode cX6_number 91 = .ok (.iload 7, 2) := by decide +kernel
theorem dX6_number_93 : decode cX6_number 93 = .ok (.iload 5, 2) := by decide +kernel
theorem dX6_number_95 : decode cX6_number 95 = .ok (.iadd, 1) := by decide +kernel
theorem dX6_number_96 : decode cX6_number 96 = .ok (.iconst 1, 1) := by decide +kernel
theorem dX6_number_97 : decode cX6_number 97 = .ok (.isub, 1) := by decide +kernel
theorem dX6_number_98 : decode cX6_number 98 = .ok (.iload_n 2, 1) := by decide +kernel
theorem dX6_number_99 : decode cX6_number 99 = .ok (.if_icmp .ge 5, 3) := by decide +kernel
theorem dX6_number_102 : decode cX6_number 102 = .ok (.iconst (-1), 1) := by decide +kernel
theorem dX6_number_103 : decode cX6_number 103 = .ok (.ireturn, 1) := by decide +kernel
theorem dX6_number_104 : decode cX6_number 104 = .ok (.iload 7, 2) := by decide +kernel
theorem dX6_number_106 : decode cX6_number 106 = .ok (.istore 4, 2) := by decide +kernel
theorem dX6_number_108 : decode cX6_number 108 = .ok (.iload 5, 2) := by decide +kernel
theorem dX6_number_110 : decode cX6_number 110 = .ok (.bipush 10, 2) := by decide +kernel
theorem dX6_number_112 : decode cX6_number 112 = .ok (.idiv, 1) := by decide +kernel
theorem dX6_number_113 : decode cX6_number 113 = .ok (.istore 5, 2) := by decide +kernel
theorem dX6_number_115 : decode cX6_number 115 = .ok (.aload_n 0, 1) := by decide +kernel
theorem dX6_number_116 : decode cX6_number 116 = .ok (.dup, 1) := by decide +kernel
theorem dX6_number_117 : decode cX6_number 117 = .ok (.getfield 95, 3) := by decide +kernel
theorem dX6_number_120 : decode cX6_number 120 = .ok (.iconst 1, 1) := by decide +kernel
theorem dX6_number_121 : decode cX6_number 121 = .ok (.iadd, 1) := by decide +kernel
theorem dX6_number_122 : decode cX6_number 122 = .ok (.putfield 95, 3) := by decide +kernel
theorem dX6_number_125 : decode cX6_number 125 = .ok (.goto (-97), 3) := by decide +kernel
theorem dX6_number_128 : decode cX6_number 128 = .ok (.iload 4, 2) := by decide +kernel
theorem dX6_number_130 : decode cX6_number 130 = .ok (.ireturn, 1) := by decide +kernel
set_option maxRecDepth 20000 in
theorem ggX6_does_X6_comeOn : GoodIn wsX6_does wsX6_comeOn := goodIn_r _ [4] (by decide +kernel) (by decide +kernel)
set_option maxRecDepth 20000 in
theorem gX6_does_X6_comeOn : GoodIn wsX6_does (va_wsS RX6 100 yX6_comeOn wsX6_comeOn) := goodIn_app (goodIn_of _ (by decide +kernel)) ggX6_does_X6_comeOn
set_option maxRecDepth 20000 in
theorem ggX6_does_X6_whyNotOrder : GoodIn wsX6_does wsX6_whyNotOrder := goodIn_r _ [7, 8, 9, 3, 10, 11, 12, 13, 14, 15, 16, 17] (by decide +kernel) (by decide +kernel)
set_option maxRecDepth 20000 in
theorem gX6_does_X6_whyNotOrder : GoodIn wsX6_does (va_wsS RX6 103 yX6_whyNotOrder wsX6_whyNotOrder) := goodIn_app (goodIn_of _ (by decide +kernel)) ggX6_does_X6_whyNotOrder
set_option maxRecDepth 20000 in
theorem ggX6_does_X6_at : GoodIn wsX6_does wsX6_at := goodIn_r _ [20] (by decide +kernel) (by decide +kernel)
set_option maxRecDepth 20000 in
theorem gX6_does_X6_at : GoodIn wsX6_does (va_wsS RX6 45 yX6_at wsX6_at) := goodIn_app (goodIn_of _ (by decide +kernel)) ggX6_does_X6_at
set_option maxRecDepth 20000 in
theorem ggX6_does_X6_orderOn : GoodIn wsX6_does wsX6_orderOn := goodIn_r _ [23, 18, 19, 3, 20, 24, 25, 26] (by decide +kernel) (by decide +kernel)
set_option maxRecDepth 20000 in
theorem gX6_does_X6_orderOn : GoodIn wsX6_does (va_wsS RX6 106 yX6_orderOn wsX6_orderOn) := goodIn_app (goodIn_of _ (by decide +kernel)) ggX6_does_X6_orderOn
set_option maxRecDepth 20000 in
theorem ggX6_does_X6_isChild : GoodIn wsX6_does wsX6_isChild := goodIn_r _ [10, 11, 12, 3, 13] (by decide +kernel) (by decide +kernel)
set_option maxRecDepth 20000 in
theorem gX6_does_X6_isChild : GoodIn wsX6_does (va_wsS RX6 75 yX6_isChild wsX6_isChild) := goodIn_app (goodIn_of _ (by decide +kernel)) ggX6_does_X6_isChild
set_option maxRecDepth 20000 in
theorem ggX6_does_X6_payOn : GoodIn wsX6_does wsX6_payOn := goodIn_r _ [29] (by decide +kernel) (by decide +kernel)
set_option maxRecDepth 20000 in
theorem gX6_does_X6_payOn : GoodIn wsX6_does (va_wsS RX6 110 yX6_payOn wsX6_payOn) := goodIn_app (goodIn_of _ (by decide +kernel)) ggX6_does_X6_payOn
set_option maxRecDepth 20000 in
theorem ggX6_does_X6_whyNotEntitle : GoodIn wsX6_does wsX6_whyNotEntitle := goodIn_r _ [32, 17, 8, 9, 3, 10, 11, 12, 13, 14, 15, 16] (by decide +kernel) (by decide +kernel)
set_option maxRecDepth 20000 in
theorem gX6_does_X6_whyNotEntitle : GoodIn wsX6_does (va_wsS RX6 113 yX6_whyNotEntitle wsX6_whyNotEntitle) := goodIn_app (goodIn_of _ (by decide +kernel)) ggX6_does_X6_whyNotEntitle
set_option maxRecDepth 20000 in
theorem ggX6_does_X6_entitleOn : GoodIn wsX6_does wsX6_entitleOn := goodIn_r _ [35, 36, 37, 3, 38, 18, 19, 20, 39, 40, 41, 11, 12, 13] (by decide +kernel) (by decide +kernel)
set_option maxRecDepth 20000 in
theorem gX6_does_X6_entitleOn : GoodIn wsX6_does (va_wsS RX6 116 yX6_entitleOn wsX6_entitleOn) := goodIn_app (goodIn_of _ (by decide +kernel)) ggX6_does_X6_entitleOn
set_option maxRecDepth 20000 in
theorem ggX6_does_X6_canGoBy : GoodIn wsX6_does wsX6_canGoBy := goodIn_r _ [44, 11, 12, 3, 13] (by decide +kernel) (by decide +kernel)
set_option maxRecDepth 20000 in
theorem gX6_does_X6_canGoBy : GoodIn wsX6_does (va_wsS RX6 119 yX6_canGoBy wsX6_canGoBy) := goodIn_app (goodIn_of _ (by decide +kernel)) ggX6_does_X6_canGoBy
set_option maxRecDepth 20000 in
theorem ggX6_does_X6_daysOn : GoodIn wsX6_does wsX6_daysOn := goodIn_r _ [47, 48, 49, 3, 50, 24, 25, 26, 18, 19, 20, 51, 52, 53, 39, 40, 41, 11, 12, 13, 54, 55, 56] (by decide +kernel) (by decide +kernel)
set_option maxRecDepth 20000 in
theorem gX6_does_X6_daysOn : GoodIn wsX6_does (va_wsS RX6 122 yX6_daysOn wsX6_daysOn) := goodIn_app (goodIn_of _ (by decide +kernel)) ggX6_does_X6_daysOn
theorem dX6_does_0 : decode cX6_does 0 = .ok (.iload_n 1, 1) := by decide +kernel
theorem dX6_does_1 : decode cX6_does 1 = .ok (.tableswitch 212 99 112 #[71, 212, 172, 212, 212, 196, 212, 212, 212, 212, 94, 212, 111, 153], 71) := by decide +kernel
theorem dX6_does_72 : decode cX6_does 72 = .ok (.aload_n 0, 1) := by decide +kernel
theorem dX6_does_73 : decode cX6_does 73 = .ok (.iconst 1, 1) := by decide +kernel
theorem dX6_does_74 : decode cX6_does 74 = .ok (.iaload, 1) := by decide +kernel
theorem dX6_does_75 : decode cX6_does 75 = .ok (.bipush 12, 2) := by decide +kernel
theorem dX6_does_77 : decode cX6_does 77 = .ok (.if_icmp .ge 16, 3) := by decide +kernel
theorem dX6_does_80 : decode cX6_does 80 = .ok (.aload_n 0, 1) := by decide +kernel
theorem dX6_does_81 : decode cX6_does 81 = .ok (.iload_n 2, 1) := by decide +kernel
theorem dX6_does_82 : decode cX6_does 82 = .ok (.iload_n 3, 1) := by decide +kernel
theorem dX6_does_83 : decode cX6_does 83 = .ok (.invokestatic 100, 3) := by decide +kernel
theorem dX6_does_86 : decode cX6_does 86 = .ok (.ifCond .lt 7, 3) := by decide +kernel
theorem dX6_does_89 : decode cX6_does 89 = .ok (.iconst 1, 1) := by decide +kernel
theorem dX6_does_90 : decode cX6_does 90 = .ok (.goto 4, 3) := by decide +kernel
theorem dX6_does_93 : decode cX6_does 93 = .ok (.iconst 0, 1) := by decide +kernel
theorem dX6_does_94 : decode cX6_does 94 = .ok (.ireturn, 1) := by decide +kernel
theorem dX6_does_95 : decode cX6_does 95 = .ok (.iload_n 2, 1) := by decide +kernel
theorem dX6_does_96 : decode cX6_does 96 = .ok (.aload_n 0, 1) := by decide +kernel
theorem dX6_does_97 : decode cX6_does 97 = .ok (.iconst 0, 1) := by decide +kernel
theorem dX6_does_98 : decode cX6_does 98 = .ok (.iaload, 1) := by decide +kernel
theorem dX6_does_99 : decode cX6_does 99 = .ok (.if_icmp .ge 5, 3) := by decide +kernel
theorem dX6_does_102 : decode cX6_does 102 = .ok (.iconst 0, 1) := by decide +kernel
theorem dX6_does_103 : decode cX6_does 103 = .ok (.ireturn, 1) := by decide +kernel
theorem dX6_does_104 : decode cX6_does 104 = .ok (.aload_n 0, 1) := by decide +kernel
theorem dX6_does_105 : decode cX6_does 105 = .ok (.iconst 5, 1) := by decide +kernel
theorem dX6_does_106 : decode cX6_does 106 = .ok (.iload_n 2, 1) := by decide +kernel
theorem dX6_does_107 : decode cX6_does 107 = .ok (.iadd, 1) := by decide +kernel
theorem dX6_does_108 : decode cX6_does 108 = .ok (.iload_n 3, 1) := by decide +kernel
theorem dX6_does_109 : decode cX6_does 109 = .ok (.iastore, 1) := by decide +kernel
theorem dX6_does_110 : decode cX6_does 110 = .ok (.iconst 1, 1) := by decide +kernel
theorem dX6_does_111 : decode cX6_does 111 = .ok (.ireturn, 1) := by decide +kernel
theorem dX6_does_112 : decode cX6_does 112 = .ok (.aload_n 0, 1) := by decide +kernel
theorem dX6_does_113 : decode cX6_does 113 = .ok (.iload_n 2, 1) := by decide +kernel
theorem dX6_does_114 : decode cX6_does 114 = .ok (.iload_n 3, 1) := by decide +kernel
theorem dX6_does_115 : decode cX6_does 115 = .ok (.invokestatic 103, 3) := by decide +kernel
theorem dX6_does_118 : decode cX6_does 118 = .ok (.ifCond .ne 34, 3) := by decide +kernel
theorem dX6_does_121 : decode cX6_does 121 = .ok (.aload_n 0, 1) := by decide +kernel
theorem dX6_does_122 : decode cX6_does 122 = .ok (.iload_n 2, 1) := by decide +kernel
theorem dX6_does_123 : decode cX6_does 123 = .ok (.iload_n 3, 1) := by decide +kernel
theorem dX6_does_124 : decode cX6_does 124 = .ok (.aload_n 0, 1) := by decide +kernel
theorem dX6_does_125 : decode cX6_does 125 = .ok (.bipush 115, 2) := by decide +kernel
theorem dX6_does_127 : decode cX6_does 127 = .ok (.iload_n 2, 1) := by decide +kernel
theorem dX6_does_128 : decode cX6_does 128 = .ok (.iload_n 3, 1) := by decide +kernel
theorem dX6_does_129 : decode cX6_does 129 = .ok (.invokestatic 45, 3) := by decide +kernel
theorem dX6_does_132 : decode cX6_does 132 = .ok (.iadd, 1) := by decide +kernel
theorem dX6_does_133 : decode cX6_does 133 = .ok (.iaload, 1) := by decide +kernel
theorem dX6_does_134 : decode cX6_does 134 = .ok (.ifCond .ne 7, 3) := by decide +kernel
theorem dX6_does_137 : decode cX6_does 137 = .ok (.iconst 1, 1) := by decide +kernel
theorem dX6_does_138 : decode cX6_does 138 = .ok (.goto 4, 3) := by decide +kernel
theorem dX6_does_141 : decode cX6_does 141 = .ok (.iconst 0, 1) := by decide +kernel
theorem dX6_does_142 : decode cX6_does 142 = .ok (.invokestatic 106, 3) := by decide +kernel
theorem dX6_does_145 : decode cX6_does 145 = .ok (.ifCond .lt 7, 3) := by decide +kernel
theorem dX6_does_148 : decode cX6_does 148 = .ok (.iconst 1, 1) := by decide +kernel
theorem dX6_does_149 : decode cX6_does 149 = .ok (.goto 4, 3) := by decide +kernel
theorem dX6_does_152 : decode cX6_does 152 = .ok (.iconst 0, 1) := by decide +kernel
theorem dX6_does_153 : decode cX6_does 153 = .ok (.ireturn, 1) := by decide +kernel
theorem dX6_does_154 : decode cX6_does 154 = .ok (.aload_n 0, 1) := by decide +kernel
theorem dX6_does_155 : decode cX6_does 155 = .ok (.iload_n 2, 1) := by decide +kernel
theorem dX6_does_156 : decode cX6_does 156 = .ok (.invokestatic 75, 3) := by decide +kernel
theorem dX6_does_159 : decode cX6_does 159 = .ok (.ifCond .ne 5, 3) := by decide +kernel
theorem dX6_does_162 : decode cX6_does 162 = .ok (.iconst 0, 1) := by decide +kernel
theorem dX6_does_163 : decode cX6_does 163 = .ok (.ireturn, 1) := by decide +kernel
theorem dX6_does_164 : decode cX6_does 164 = .ok (.aload_n 0, 1) := by decide +kernel
theorem dX6_does_165 : decode cX6_does 165 = .ok (.iload_n 2, 1) := by decide +kernel
theorem dX6_does_166 : decode cX6_does 166 = .ok (.iload_n 3, 1) := by decide +kernel
theorem dX6_does_167 : decode cX6_does 167 = .ok (.invokestatic 110, 3) := by decide +kernel
theorem dX6_does_170 : decode cX6_does 170 = .ok (.pop, 1) := by decide +kernel
theorem dX6_does_171 : decode cX6_does 171 = .ok (.iconst 1, 1) := by decide +kernel
theorem dX6_does_172 : decode cX6_does 172 = .ok (.ireturn, 1) := by decide +kernel
theorem dX6_does_173 : decode cX6_does 173 = .ok (.aload_n 0, 1) := by decide +kernel
theorem dX6_does_174 : decode cX6_does 174 = .ok (.iload_n 2, 1) := by decide +kernel
theorem dX6_does_175 : decode cX6_does 175 = .ok (.iload_n 3, 1) := by decide +kernel
theorem dX6_does_176 : decode cX6_does 176 = .ok (.iload 4, 2) := by decide +kernel
theorem dX6_does_178 : decode cX6_does 178 = .ok (.invokestatic 113, 3) := by decide +kernel
theorem dX6_does_181 : decode cX6_does 181 = .ok (.ifCond .eq 5, 3) := by decide +kernel
theorem dX6_does_184 : decode cX6_does 184 = .ok (.iconst 0, 1) := by decide +kernel
theorem dX6_does_185 : decode cX6_does 185 = .ok (.ireturn, 1) := by decide +kernel
theorem dX6_does_186 : decode cX6_does 186 = .ok (.aload_n 0, 1) := by decide +kernel
theorem dX6_does_187 : decode cX6_does 187 = .ok (.iload_n 2, 1) := by decide +kernel
theorem dX6_does_188 : decode cX6_does 188 = .ok (.iload_n 3, 1) := by decide +kernel
theorem dX6_does_189 : decode cX6_does 189 = .ok (.iload 4, 2) := by decide +kernel
theorem dX6_does_191 : decode cX6_does 191 = .ok (.invokestatic 116, 3) := by decide +kernel
theorem dX6_does_194 : decode cX6_does 194 = .ok (.pop, 1) := by decide +kernel
theorem dX6_does_195 : decode cX6_does 195 = .ok (.iconst 1, 1) := by decide +kernel
theorem dX6_does_196 : decode cX6_does 196 = .ok (.ireturn, 1) := by decide +kernel
theorem dX6_does_197 : decode cX6_does 197 = .ok (.aload_n 0, 1) := by decide +kernel
theorem dX6_does_198 : decode cX6_does 198 = .ok (.bipush 105, 2) := by decide +kernel
theorem dX6_does_200 : decode cX6_does 200 = .ok (.iload_n 2, 1) := by decide +kernel
theorem dX6_does_201 : decode cX6_does 201 = .ok (.iadd, 1) := by decide +kernel
theorem dX6_does_202 : decode cX6_does 202 = .ok (.iconst 1, 1) := by decide +kernel
theorem dX6_does_203 : decode cX6_does 203 = .ok (.aload_n 0, 1) := by decide +kernel
theorem dX6_does_204 : decode cX6_does 204 = .ok (.bipush 105, 2) := by decide +kernel
theorem dX6_does_206 : decode cX6_does 206 = .ok (.iload_n 2, 1) := by decide +kernel
theorem dX6_does_207 : decode cX6_does 207 = .ok (.iadd, 1) := by decide +kernel
theorem dX6_does_208 : decode cX6_does 208 = .ok (.iaload, 1) := by decide +kernel
theorem dX6_does_209 : decode cX6_does 209 = .ok (.isub, 1) := by decide +kernel
theorem dX6_does_210 : decode cX6_does 210 = .ok (.iastore, 1) := by decide +kernel
theorem dX6_does_211 : decode cX6_does 211 = .ok (.iconst 1, 1) := by decide +kernel
theorem dX6_does_212 : decode cX6_does 212 = .ok (.ireturn, 1) := by decide +kernel
theorem dX6_does_213 : decode cX6_does 213 = .ok (.aload_n 0, 1) := by decide +kernel
theorem dX6_does_214 : decode cX6_does 214 = .ok (.iload_n 2, 1) := by decide +kernel
theorem dX6_does_215 : decode cX6_does 215 = .ok (.invokestatic 119, 3) := by decide +kernel
theorem dX6_does_218 : decode cX6_does 218 = .ok (.ifCond .eq 15, 3) := by decide +kernel
theorem dX6_does_221 : decode cX6_does 221 = .ok (.aload_n 0, 1) := by decide +kernel
theorem dX6_does_222 : decode cX6_does 222 = .ok (.iload_n 2, 1) := by decide +kernel
theorem dX6_does_223 : decode cX6_does 223 = .ok (.invokestatic 122, 3) := by decide +kernel
theorem dX6_does_226 : decode cX6_does 226 = .ok (.ifCond .lt 7, 3) := by decide +kernel
theorem dX6_does_229 : decode cX6_does 229 = .ok (.iconst 1, 1) := by decide +kernel
theorem dX6_does_230 : decode cX6_does 230 = .ok (.goto 4, 3) := by decide +kernel
theorem dX6_does_233 : decode cX6_does 233 = .ok (.iconst 0, 1) := by decide +kernel
theorem dX6_does_234 : decode cX6_does 234 = .ok (.ireturn, 1) := by decide +kernel
set_option maxRecDepth 20000 in
theorem ggX6_readCommand_X6_number : GoodIn wsX6_readCommand wsX6_number := goodIn_r _ [8, 2, 9, 1, 10, 11, 12, 7, 13, 69, 70, 71, 72, 73, 74, 75, 76, 77, 78, 79] (by decide +kernel) (by decide +kernel)
set_option maxRecDepth 20000 in
theorem gX6_readCommand_X6_number : GoodIn wsX6_readCommand (wsV RX6 125 RX6 yX6_number wsX6_number) := goodIn_app (goodIn_of _ (by decide +kernel)) ggX6_readCommand_X6_number
set_option maxRecDepth 20000 in
theorem ggX6_readCommand_X6_does : GoodIn wsX6_readCommand wsX6_does := goodIn_r _ [16, 17, 18, 7, 19, 20, 21, 22, 23, 24, 25, 11, 12, 13, 26, 27, 28, 29, 30, 31, 32, 33, 34, 35, 36, 37, 38, 39, 40, 41, 42, 43, 44, 45, 46, 47, 48, 49, 50, 51, 52, 53, 54, 55, 56, 57, 58, 59, 60, 61, 62, 63, 64, 65, 66, 67, 68] (by decide +kernel) (by decide +kernel)
set_option maxRecDepth 20000 in
theorem gX6_readCommand_X6_does : GoodIn wsX6_readCommand (va_wsS RX6 132 yX6_does wsX6_does) := goodIn_app (goodIn_of _ (by decide +kernel)) ggX6_readCommand_X6_does
theorem dX6_readCommand_0 : decode cX6_readCommand 0 = .ok (.aload_n 0, 1) := by decide +kernel
theorem dX6_readCommand_1 : decode cX6_readCommand 1 = .ok (.getfield 7, 3) := by decide +kernel
theorem dX6_readCommand_4 : decode cX6_readCommand 4 = .ok (.aload_n 0, 1) := by decide +kernel
theorem dX6_readCommand_5 : decode cX6_readCommand 5 = .ok (.getfield 95, 3) := by decide +kernel
theorem dX6_readCommand_8 : decode cX6_readCommand 8 = .ok (.iaload, 1) := by decide +kernel
theorem dX6_readCommand_9 : decode cX6_readCommand 9 = .ok (.istore_n 2, 1) := by decide +kernel
theorem dX6_readCommand_10 : decode cX6_readCommand 10 = .ok (.aload_n 0, 1) := by decide +kernel
theorem dX6_readCommand_11 : decode cX6_readCommand 11 = .ok (.dup, 1) := by decide +kernel
theorem dX6_readCommand_12 : decode cX6_readCommand 12 = .ok (.getfield 95, 3) := by decide +kernel
theorem dX6_readCommand_15 : decode cX6_readCommand 15 = .ok (.iconst 1, 1) := by decide +kernel
theorem dX6_readCommand_16 : decode cX6_readCommand 16 = .ok (.iadd, 1) := by decide +kernel
theorem dX6_readCommand_17 : decode cX6_readCommand 17 = .ok (.putfield 95, 3) := by decide +kernel
theorem dX6_readCommand_20 : decode cX6_readCommand 20 = .ok (.iconst 0, 1) := by decide +kernel
theorem dX6_readCommand_21 : decode cX6_readCommand 21 = .ok (.istore_n 3, 1) := by decide +kernel
theorem dX6_readCommand_22 : decode cX6_readCommand 22 = .ok (.iconst 0, 1) := by decide +kernel
theorem dX6_readCommand_23 : decode cX6_readCommand 23 = .ok (.istore 4, 2) := by decide +kernel
theorem dX6_readCommand_25 : decode cX6_readCommand 25 = .ok (.iconst 0, 1) := by decide +kernel
theorem dX6_readCommand_26 : decode cX6_readCommand 26 = .ok (.istore 5, 2) := by decide +kernel
theorem dX6_readCommand_28 : decode cX6_readCommand 28 = .ok (.iload_n 2, 1) := by decide +kernel
theorem dX6_readCommand_29 : decode cX6_readCommand 29 = .ok (.tableswitch 267 99 112 #[71, 255, 193, 267, 267, 244, 267, 267, 267, 267, 100, 267, 130, 161], 71) := by decide +kernel
theorem dX6_readCommand_100 : decode cX6_readCommand 100 = .ok (.aload_n 0, 1) := by decide +kernel
theorem dX6_readCommand_101 : decode cX6_readCommand 101 = .ok (.iconst 1, 1) := by decide +kernel
theorem dX6_readCommand_102 : decode cX6_readCommand 102 = .ok (.iconst 0, 1) := by decide +kernel
theorem dX6_readCommand_103 : decode cX6_readCommand 103 = .ok (.iconst 4, 1) := by decide +kernel
theorem dX6_readCommand_104 : decode cX6_readCommand 104 = .ok (.invokevirtual 125, 3) := by decide +kernel
theorem dX6_readCommand_107 : decode cX6_readCommand 107 = .ok (.istore_n 3, 1) := by decide +kernel
theorem dX6_readCommand_108 : decode cX6_readCommand 108 = .ok (.iload_n 3, 1) := by decide +kernel
theorem dX6_readCommand_109 : decode cX6_readCommand 109 = .ok (.iconst (-1), 1) := by decide +kernel
theorem dX6_readCommand_110 : decode cX6_readCommand 110 = .ok (.if_icmp .ne 7, 3) := by decide +kernel
theorem dX6_readCommand_113 : decode cX6_readCommand 113 = .ok (.iconst (-1), 1) := by decide +kernel
theorem dX6_readCommand_114 : decode cX6_readCommand 114 = .ok (.goto 10, 3) := by decide +kernel
theorem dX6_readCommand_117 : decode cX6_readCommand 117 = .ok (.aload_n 0, 1) := by decide +kernel
theorem dX6_readCommand_118 : decode cX6_readCommand 118 = .ok (.iconst 1, 1) := by decide +kernel
theorem dX6_readCommand_119 : decode cX6_readCommand 119 = .ok (.iconst 0, 1) := by decide +kernel
theorem dX6_readCommand_120 : decode cX6_readCommand 120 = .ok (.iconst 3, 1) := by decide +kernel
theorem dX6_readCommand_121 : decode cX6_readCommand 121 = .ok (.invokevirtual 125, 3) := by decide +kernel
theorem dX6_readCommand_124 : decode cX6_readCommand 124 = .ok (.istore 4, 2) := by decide +kernel
theorem dX6_readCommand_126 : decode cX6_readCommand 126 = .ok (.goto 182, 3) := by decide +kernel
theorem dX6_readCommand_129 : decode cX6_readCommand 129 = .ok (.aload_n 0, 1) := by decide +kernel
theorem dX6_readCommand_130 : decode cX6_readCommand 130 = .ok (.iconst 2, 1) := by decide +kernel
theorem dX6_readCommand_131 : decode cX6_readCommand 131 = .ok (.iconst 0, 1) := by decide +kernel
theorem dX6_readCommand_132 : decode cX6_readCommand 132 = .ok (.bipush 39, 2) := by decide +kernel
theorem dX6_readCommand_134 : decode cX6_readCommand 134 = .ok (.invokevirtual 125, 3) := by decide +kernel
theorem dX6_readCommand_137 : decode cX6_readCommand 137 = .ok (.istore_n 3, 1) := by decide +kernel
theorem dX6_readCommand_138 : decode cX6_readCommand 138 = .ok (.iload_n 3, 1) := by decide +kernel
theorem dX6_readCommand_139 : decode cX6_readCommand 139 = .ok (.iconst (-1), 1) := by decide +kernel
theorem dX6_readCommand_140 : decode cX6_readCommand 140 = .ok (.if_icmp .ne 7, 3) := by decide +kernel
theorem dX6_readCommand_143 : decode cX6_readCommand 143 = .ok (.iconst (-1), 1) := by decide +kernel
theorem dX6_readCommand_144 : decode cX6_readCommand 144 = .ok (.goto 10, 3) := by decide +kernel
theorem dX6_readCommand_147 : decode cX6_readCommand 147 = .ok (.aload_n 0, 1) := by decide +kernel
theorem dX6_readCommand_148 : decode cX6_readCommand 148 = .ok (.iconst 1, 1) := by decide +kernel
theorem dX6_readCommand_149 : decode cX6_readCommand 149 = .ok (.iconst 0, 1) := by decide +kernel
theorem dX6_readCommand_150 : decode cX6_readCommand 150 = .ok (.iconst 3, 1) := by decide +kernel
theorem dX6_readCommand_151 : decode cX6_readCommand 151 = .ok (.invokevirtual 125, 3) := by decide +kernel
theorem dX6_readCommand_154 : decode cX6_readCommand 154 = .ok (.istore 4, 2) := by decide +kernel
theorem dX6_readCommand_156 : decode cX6_readCommand 156 = .ok (.goto 152, 3) := by decide +kernel
theorem dX6_readCommand_159 : decode cX6_readCommand 159 = .ok (.aload_n 0, 1) := by decide +kernel
theorem dX6_readCommand_160 : decode cX6_readCommand 160 = .ok (.iconst 2, 1) := by decide +kernel
theorem dX6_readCommand_161 : decode cX6_readCommand 161 = .ok (.iconst 0, 1) := by decide +kernel
theorem dX6_readCommand_162 : decode cX6_readCommand 162 = .ok (.bipush 11, 2) := by decide +kernel
theorem dX6_readCommand_164 : decode cX6_readCommand 164 = .ok (.invokevirtual 125, 3) := by decide +kernel
theorem dX6_readCommand_167 : decode cX6_readCommand 167 = .ok (.istore_n 3, 1) := by decide +kernel
theorem dX6_readCommand_168 : decode cX6_readCommand 168 = .ok (.iload_n 3, 1) := by decide +kernel
theorem dX6_readCommand_169 : decode cX6_readCommand 169 = .ok (.iconst (-1), 1) := by decide +kernel
theorem dX6_readCommand_170 : decode cX6_readCommand 170 = .ok (.if_icmp .ne 7, 3) := by decide +kernel
theorem dX6_readCommand_173 : decode cX6_readCommand 173 = .ok (.iconst (-1), 1) := by decide +kernel
theorem dX6_readCommand_174 : decode cX6_readCommand 174 = .ok (.goto 11, 3) := by decide +kernel
theorem dX6_readCommand_177 : decode cX6_readCommand 177 = .ok (.aload_n 0, 1) := by decide +kernel
theorem dX6_readCommand_178 : decode cX6_readCommand 178 = .ok (.iconst 2, 1) := by decide +kernel
theorem dX6_readCommand_179 : decode cX6_readCommand 179 = .ok (.iconst 0, 1) := by decide +kernel
theorem dX6_readCommand_180 : decode cX6_readCommand 180 = .ok (.bipush 39, 2) := by decide +kernel
theorem dX6_readCommand_182 : decode cX6_readCommand 182 = .ok (.invokevirtual 125, 3) := by decide +kernel
theorem dX6_readCommand_185 : decode cX6_readCommand 185 = .ok (.istore 4, 2) := by decide +kernel
theorem dX6_readCommand_187 : decode cX6_readCommand 187 = .ok (.goto 121, 3) := by decide +kernel
theorem dX6_readCommand_190 : decode cX6_readCommand 190 = .ok (.aload_n 0, 1) := by decide +kernel
theorem dX6_readCommand_191 : decode cX6_readCommand 191 = .ok (.iconst 2, 1) := by decide +kernel
theorem dX6_readCommand_192 : decode cX6_readCommand 192 = .ok (.iconst 0, 1) := by decide +kernel
theorem dX6_readCommand_193 : decode cX6_readCommand 193 = .ok (.bipush 11, 2) := by decide +kernel
theorem dX6_readCommand_195 : decode cX6_readCommand 195 = .ok (.invokevirtual 125, 3) := by decide +kernel
theorem dX6_readCommand_198 : decode cX6_readCommand 198 = .ok (.istore_n 3, 1) := by decide +kernel
theorem dX6_readCommand_199 : decode cX6_readCommand 199 = .ok (.iload_n 3, 1) := by decide +kernel
theorem dX6_readCommand_200 : decode cX6_readCommand 200 = .ok (.iconst (-1), 1) := by decide +kernel
theorem dX6_readCommand_201 : decode cX6_readCommand 201 = .ok (.if_icmp .ne 7, 3) := by decide +kernel
theorem dX6_readCommand_204 : decode cX6_readCommand 204 = .ok (.iconst (-1), 1) := by decide +kernel
theorem dX6_readCommand_205 : decode cX6_readCommand 205 = .ok (.goto 12, 3) := by decide +kernel
theorem dX6_readCommand_208 : decode cX6_readCommand 208 = .ok (.aload_n 0, 1) := by decide +kernel
theorem dX6_readCommand_209 : decode cX6_readCommand 209 = .ok (.iconst 4, 1) := by decide +kernel
theorem dX6_readCommand_210 : decode cX6_readCommand 210 = .ok (.iconst 1, 1) := by decide +kernel
theorem dX6_readCommand_211 : decode cX6_readCommand 211 = .ok (.sipush 9999, 3) := by decide +kernel
theorem dX6_readCommand_214 : decode cX6_readCommand 214 = .ok (.invokevirtual 125, 3) := by decide +kernel
theorem dX6_readCommand_217 : decode cX6_readCommand 217 = .ok (.istore 4, 2) := by decide +kernel
theorem dX6_readCommand_219 : decode cX6_readCommand 219 = .ok (.goto 89, 3) := by decide +kernel
theorem dX6_readCommand_222 : decode cX6_readCommand 222 = .ok (.aload_n 0, 1) := by decide +kernel
theorem dX6_readCommand_223 : decode cX6_readCommand 223 = .ok (.iconst 2, 1) := by decide +kernel
theorem dX6_readCommand_224 : decode cX6_readCommand 224 = .ok (.iconst 0, 1) := by decide +kernel
theorem dX6_readCommand_225 : decode cX6_readCommand 225 = .ok (.bipush 11, 2) := by decide +kernel
theorem dX6_readCommand_227 : decode cX6_readCommand 227 = .ok (.invokevirtual 125, 3) := by decide +kernel
theorem dX6_readCommand_230 : decode cX6_readCommand 230 = .ok (.istore_n 3, 1) := by decide +kernel
theorem dX6_readCommand_231 : decode cX6_readCommand 231 = .ok (.iload_n 3, 1) := by decide +kernel
theorem dX6_readCommand_232 : decode cX6_readCommand 232 = .ok (.iconst (-1), 1) := by decide +kernel
theorem dX6_readCommand_233 : decode cX6_readCommand 233 = .ok (.if_icmp .ne 7, 3) := by decide +kernel
theorem dX6_readCommand_236 : decode cX6_readCommand 236 = .ok (.iconst (-1), 1) := by decide +kernel
theorem dX6_readCommand_237 : decode cX6_readCommand 237 = .ok (.goto 11, 3) := by decide +kernel
theorem dX6_readCommand_240 : decode cX6_readCommand 240 = .ok (.aload_n 0, 1) := by decide +kernel
theorem dX6_readCommand_241 : decode cX6_readCommand 241 = .ok (.iconst 2, 1) := by decide +kernel
theorem dX6_readCommand_242 : decode cX6_readCommand 242 = .ok (.iconst 0, 1) := by decide +kernel
theorem dX6_readCommand_243 : decode cX6_readCommand 243 = .ok (.bipush 39, 2) := by decide +kernel
theorem dX6_readCommand_245 : decode cX6_readCommand 245 = .ok (.invokevirtual 125, 3) := by decide +kernel
theorem dX6_readCommand_248 : decode cX6_readCommand 248 = .ok (.istore 4, 2) := by decide +kernel
theorem dX6_readCommand_250 : decode cX6_readCommand 250 = .ok (.iload 4, 2) := by decide +kernel
theorem dX6_readCommand_252 : decode cX6_readCommand 252 = .ok (.iconst (-1), 1) := by decide +kernel
theorem dX6_readCommand_253 : decode cX6_readCommand 253 = .ok (.if_icmp .ne 7, 3) := by decide +kernel
theorem dX6_readCommand_256 : decode cX6_readCommand 256 = .ok (.iconst (-1), 1) := by decide +kernel
theorem dX6_readCommand_257 : decode cX6_readCommand 257 = .ok (.goto 11, 3) := by decide +kernel
theorem dX6_readCommand_260 : decode cX6_readCommand 260 = .ok (.aload_n 0, 1) := by decide +kernel
theorem dX6_readCommand_261 : decode cX6_readCommand 261 = .ok (.iconst 2, 1) := by decide +kernel
theorem dX6_readCommand_262 : decode cX6_readCommand 262 = .ok (.iconst 0, 1) := by decide +kernel
theorem dX6_readCommand_263 : decode cX6_readCommand 263 = .ok (.bipush 39, 2) := by decide +kernel
theorem dX6_readCommand_265 : decode cX6_readCommand 265 = .ok (.invokevirtual 125, 3) := by decide +kernel
theorem dX6_readCommand_268 : decode cX6_readCommand 268 = .ok (.istore 5, 2) := by decide +kernel
theorem dX6_readCommand_270 : decode cX6_readCommand 270 = .ok (.goto 38, 3) := by decide +kernel
theorem dX6_readCommand_273 : decode cX6_readCommand 273 = .ok (.aload_n 0, 1) := by decide +kernel
theorem dX6_readCommand_274 : decode cX6_readCommand 274 = .ok (.iconst 1, 1) := by decide +kernel
theorem dX6_readCommand_275 : decode cX6_readCommand 275 = .ok (.iconst 0, 1) := by decide +kernel
theorem dX6_readCommand_276 : decode cX6_readCommand 276 = .ok (.iconst 4, 1) := by decide +kernel
theorem dX6_readCommand_277 : decode cX6_readCommand 277 = .ok (.invokevirtual 125, 3) := by decide +kernel
theorem dX6_readCommand_280 : decode cX6_readCommand 280 = .ok (.istore_n 3, 1) := by decide +kernel
theorem dX6_readCommand_281 : decode cX6_readCommand 281 = .ok (.goto 27, 3) := by decide +kernel
theorem dX6_readCommand_284 : decode cX6_readCommand 284 = .ok (.aload_n 0, 1) := by decide +kernel
theorem dX6_readCommand_285 : decode cX6_readCommand 285 = .ok (.iconst 1, 1) := by decide +kernel
theorem dX6_readCommand_286 : decode cX6_readCommand 286 = .ok (.iconst 1, 1) := by decide +kernel
theorem dX6_readCommand_287 : decode cX6_readCommand 287 = .ok (.bipush 9, 2) := by decide +kernel
theorem dX6_readCommand_289 : decode cX6_readCommand 289 = .ok (.invokevirtual 125, 3) := by decide +kernel
theorem dX6_readCommand_292 : decode cX6_readCommand 292 = .ok (.istore_n 3, 1) := by decide +kernel
theorem dX6_readCommand_293 : decode cX6_readCommand 293 = .ok (.goto 15, 3) := by decide +kernel
theorem dX6_readCommand_296 : decode cX6_readCommand 296 = .ok (.aload_n 0, 1) := by decide +kernel
theorem dX6_readCommand_297 : decode cX6_readCommand 297 = .ok (.dup, 1) := by decide +kernel
theorem dX6_readCommand_298 : decode cX6_readCommand 298 = .ok (.getfield 95, 3) := by decide +kernel
theorem dX6_readCommand_301 : decode cX6_readCommand 301 = .ok (.iconst 1, 1) := by decide +kernel
theorem dX6_readCommand_302 : decode cX6_readCommand 302 = .ok (.isub, 1) := by decide +kernel
theorem dX6_readCommand_303 : decode cX6_readCommand 303 = .ok (.putfield 95, 3) := by decide +kernel
theorem dX6_readCommand_306 : decode cX6_readCommand 306 = .ok (.iconst 0, 1) := by decide +kernel
theorem dX6_readCommand_307 : decode cX6_readCommand 307 = .ok (.ireturn, 1) := by decide +kernel
theorem dX6_readCommand_308 : decode cX6_readCommand 308 = .ok (.iload_n 3, 1) := by decide +kernel
theorem dX6_readCommand_309 : decode cX6_readCommand 309 = .ok (.iconst (-1), 1) := by decide +kernel
theorem dX6_readCommand_310 : decode cX6_readCommand 310 = .ok (.if_icmp .eq 15, 3) := by decide +kernel
theorem dX6_readCommand_313 : decode cX6_readCommand 313 = .ok (.iload 4, 2) := by decide +kernel
theorem dX6_readCommand_315 : decode cX6_readCommand 315 = .ok (.iconst (-1), 1) := by decide +kernel
theorem dX6_readCommand_316 : decode cX6_readCommand 316 = .ok (.if_icmp .eq 9, 3) := by decide +kernel
theorem dX6_readCommand_319 : decode cX6_readCommand 319 = .ok (.iload 5, 2) := by decide +kernel
theorem dX6_readCommand_321 : decode cX6_readCommand 321 = .ok (.iconst (-1), 1) := by decide +kernel
theorem dX6_readCommand_322 : decode cX6_readCommand 322 = .ok (.if_icmp .ne 5, 3) := by decide +kernel
theorem dX6_readCommand_325 : decode cX6_readCommand 325 = .ok (.iconst 0, 1) := by decide +kernel
theorem dX6_readCommand_326 : decode cX6_readCommand 326 = .ok (.ireturn, 1) := by decide +kernel
theorem dX6_readCommand_327 : decode cX6_readCommand 327 = .ok (.aload_n 0, 1) := by decide +kernel
theorem dX6_readCommand_328 : decode cX6_readCommand 328 = .ok (.dup, 1) := by decide +kernel
theorem dX6_readCommand_329 : decode cX6_readCommand 329 = .ok (.getfield 129, 3) := by decide +kernel
theorem dX6_readCommand_332 : decode cX6_readCommand 332 = .ok (.aload_n 1, 1) := by decide +kernel
theorem dX6_readCommand_333 : decode cX6_readCommand 333 = .ok (.iload_n 2, 1) := by decide +kernel
theorem dX6_readCommand_334 : decode cX6_readCommand 334 = .ok (.iload_n 3, 1) := by decide +kernel
theorem dX6_readCommand_335 : decode cX6_readCommand 335 = .ok (.iload 4, 2) := by decide +kernel
theorem dX6_readCommand_337 : decode cX6_readCommand 337 = .ok (.iload 5, 2) := by decide +kernel
theorem dX6_readCommand_339 : decode cX6_readCommand 339 = .ok (.invokestatic 132, 3) := by decide +kernel
theorem dX6_readCommand_342 : decode cX6_readCommand 342 = .ok (.ifCond .eq 7, 3) := by decide +kernel
theorem dX6_readCommand_345 : decode cX6_readCommand 345 = .ok (.iconst 0, 1) := by decide +kernel
theorem dX6_readCommand_346 : decode cX6_readCommand 346 = .ok (.goto 4, 3) := by decide +kernel
theorem dX6_readCommand_349 : decode cX6_readCommand 349 = .ok (.iconst 1, 1) := by decide +kernel
theorem dX6_readCommand_350 : decode cX6_readCommand 350 = .ok (.iadd, 1) := by decide +kernel
theorem dX6_readCommand_351 : decode cX6_readCommand 351 = .ok (.putfield 129, 3) := by decide +kernel
theorem dX6_readCommand_354 : decode cX6_readCommand 354 = .ok (.iconst 1, 1) := by decide +kernel
theorem dX6_readCommand_355 : decode cX6_readCommand 355 = .ok (.ireturn, 1) := by decide +kernel
set_option maxRecDepth 20000 in
theorem ggX6_readText_X6_begin : GoodIn wsX6_readText wsX6_begin := goodIn_r _ [8] (by decide +kernel) (by decide +kernel)
set_option maxRecDepth 20000 in
theorem gX6_readText_X6_begin : GoodIn wsX6_readText (va_wsS RX6 29 yX6_begin wsX6_begin) := goodIn_app (goodIn_of _ (by decide +kernel)) ggX6_readText_X6_begin
set_option maxRecDepth 20000 in
theorem ggX6_readText_X6_readCommand : GoodIn wsX6_readText wsX6_readCommand := goodIn_r _ [12, 4, 2, 1, 13, 14, 15, 7, 16, 3, 17, 18, 19, 20, 21, 22, 23, 24, 25, 26, 27, 28, 29, 30, 31, 32, 33, 34, 35, 36, 37, 38, 39, 40, 41, 42, 43, 44, 45, 46, 47, 48, 49, 50, 51, 52, 53, 54, 55, 56, 57, 58, 59, 60, 61, 62, 63, 64, 65, 66, 67, 68, 69, 70, 71, 72, 73, 74, 75, 76, 77, 78, 79, 80, 81, 82, 83, 84, 85, 86] (by decide +kernel) (by decide +kernel)
set_option maxRecDepth 20000 in
theorem gX6_readText_X6_readCommand : GoodIn wsX6_readText (wsV RX6 136 RX6 yX6_readCommand wsX6_readCommand) := goodIn_app (goodIn_of _ (by decide +kernel)) ggX6_readText_X6_readCommand
theorem dX6_readText_0 : decode cX6_readText 0 = .ok (.aload_n 1, 1) := by decide +kernel
theorem dX6_readText_1 : decode cX6_readText 1 = .ok (.invokestatic 29, 3) := by decide +kernel
theorem dX6_readText_4 : decode cX6_readText 4 = .ok (.aload_n 0, 1) := by decide +kernel
theorem dX6_readText_5 : decode cX6_readText 5 = .ok (.iconst 0, 1) := by decide +kernel
theorem dX6_readText_6 : decode cX6_readText 6 = .ok (.putfield 129, 3) := by decide +kernel
theorem dX6_readText_9 : decode cX6_readText 9 = .ok (.aload_n 0, 1) := by decide +kernel
theorem dX6_readText_10 : decode cX6_readText 10 = .ok (.iconst 0, 1) := by decide +kernel
theorem dX6_readText_11 : decode cX6_readText 11 = .ok (.putfield 95, 3) := by decide +kernel
theorem dX6_readText_14 : decode cX6_readText 14 = .ok (.aload_n 0, 1) := by decide +kernel
theorem dX6_readText_15 : decode cX6_readText 15 = .ok (.getfield 89, 3) := by decide +kernel
theorem dX6_readText_18 : decode cX6_readText 18 = .ok (.ifCond .eq 14, 3) := by decide +kernel
theorem dX6_readText_21 : decode cX6_readText 21 = .ok (.aload_n 0, 1) := by decide +kernel
theorem dX6_readText_22 : decode cX6_readText 22 = .ok (.getfield 7, 3) := by decide +kernel
theorem dX6_readText_25 : decode cX6_readText 25 = .ok (.iconst 0, 1) := by decide +kernel
theorem dX6_readText_26 : decode cX6_readText 26 = .ok (.iaload, 1) := by decide +kernel
theorem dX6_readText_27 : decode cX6_readText 27 = .ok (.bipush 83, 2) := by decide +kernel
theorem dX6_readText_29 : decode cX6_readText 29 = .ok (.if_icmp .eq 5, 3) := by decide +kernel
theorem dX6_readText_32 : decode cX6_readText 32 = .ok (.iconst 0, 1) := by decide +kernel
theorem dX6_readText_33 : decode cX6_readText 33 = .ok (.ireturn, 1) := by decide +kernel
theorem dX6_readText_34 : decode cX6_readText 34 = .ok (.aload_n 0, 1) := by decide +kernel
theorem dX6_readText_35 : decode cX6_readText 35 = .ok (.iconst 1, 1) := by decide +kernel
theorem dX6_readText_36 : decode cX6_readText 36 = .ok (.putfield 95, 3) := by decide +kernel
theorem dX6_readText_39 : decode cX6_readText 39 = .ok (.aload_n 0, 1) := by decide +kernel
theorem dX6_readText_40 : decode cX6_readText 40 = .ok (.getfield 95, 3) := by decide +kernel
theorem dX6_readText_43 : decode cX6_readText 43 = .ok (.aload_n 0, 1) := by decide +kernel
theorem dX6_readText_44 : decode cX6_readText 44 = .ok (.getfield 89, 3) := by decide +kernel
theorem dX6_readText_47 : decode cX6_readText 47 = .ok (.if_icmp .ge 16, 3) := by decide +kernel
theorem dX6_readText_50 : decode cX6_readText 50 = .ok (.aload_n 0, 1) := by decide +kernel
theorem dX6_readText_51 : decode cX6_readText 51 = .ok (.aload_n 1, 1) := by decide +kernel
theorem dX6_readText_52 : decode cX6_readText 52 = .ok (.invokevirtual 136, 3) := by decide +kernel
theorem dX6_readText_55 : decode cX6_readText 55 = .ok (.ifCond .ne (-16), 3) := by decide +kernel
theorem dX6_readText_58 : decode cX6_readText 58 = .ok (.aload_n 0, 1) := by decide +kernel
theorem dX6_readText_59 : decode cX6_readText 59 = .ok (.getfield 95, 3) := by decide +kernel
theorem dX6_readText_62 : decode cX6_readText 62 = .ok (.ireturn, 1) := by decide +kernel
theorem dX6_readText_63 : decode cX6_readText 63 = .ok (.iconst (-1), 1) := by decide +kernel
theorem dX6_readText_64 : decode cX6_readText 64 = .ok (.ireturn, 1) := by decide +kernel
set_option maxRecDepth 20000 in
theorem ggX6_errorPosition_X6_readText : GoodIn wsX6_errorPosition wsX6_readText := goodIn_r _ [7, 8, 9, 10, 11, 12, 13, 6, 14, 15, 16, 17, 18, 19, 20, 21, 22, 23, 24, 25, 26, 27, 28, 29, 30, 31, 32, 33, 34, 35, 36, 37, 38, 39, 40, 41, 42, 43, 44, 45, 46, 47, 48, 49, 50, 51, 52, 53, 54, 55, 56, 57, 58, 59, 60, 61, 62, 63, 64, 65, 66, 67, 68, 69, 70, 71, 72, 73, 74, 75, 76, 77, 78, 79, 80, 81, 82, 83, 84, 85, 86, 87, 88, 89, 90, 91, 92] (by decide +kernel) (by decide +kernel)
set_option maxRecDepth 20000 in
theorem gX6_errorPosition_X6_readText : GoodIn wsX6_errorPosition (wsV RX6 140 RX6 yX6_readText wsX6_readText) := goodIn_app (goodIn_of _ (by decide +kernel)) ggX6_errorPosition_X6_readText
theorem dX6_errorPosition_0 : decode cX6_errorPosition 0 = .ok (.aload_n 0, 1) := by decide +kernel
theorem dX6_errorPosition_1 : decode cX6_errorPosition 1 = .ok (.iconst 0, 1) := by decide +kernel
theorem dX6_errorPosition_2 : decode cX6_errorPosition 2 = .ok (.putfield 33, 3) := by decide +kernel
theorem dX6_errorPosition_5 : decode cX6_errorPosition 5 = .ok (.aload_n 0, 1) := by decide +kernel
theorem dX6_errorPosition_6 : decode cX6_errorPosition 6 = .ok (.aload_n 0, 1) := by decide +kernel
theorem dX6_errorPosition_7 : decode cX6_errorPosition 7 = .ok (.getfield 16, 3) := by decide +kernel
theorem dX6_errorPosition_10 : decode cX6_errorPosition 10 = .ok (.invokevirtual 140, 3) := by decide +kernel
theorem dX6_errorPosition_13 : decode cX6_errorPosition 13 = .ok (.ireturn, 1) := by decide +kernel
set_option maxRecDepth 20000 in
theorem ggX6_load_X6_readText : GoodIn wsX6_load wsX6_readText := goodIn_r _ [10, 5, 11, 12, 13, 14, 15, 9, 16, 17, 18, 19, 20, 21, 22, 23, 24, 25, 26, 27, 28, 29, 30, 31, 32, 33, 34, 35, 36, 37, 38, 39, 40, 41, 42, 43, 44, 45, 46, 47, 48, 49, 50, 51, 52, 53, 54, 55, 56, 57, 58, 59, 60, 61, 62, 63, 64, 65, 66, 67, 68, 69, 70, 71, 72, 73, 74, 75, 76, 77, 78, 79, 80, 81, 82, 83, 92, 93, 94, 95, 96, 97, 98, 99, 100, 101, 102] (by decide +kernel) (by decide +kernel)
set_option maxRecDepth 20000 in
theorem gX6_load_X6_readText : GoodIn wsX6_load (wsV RX6 140 RX6 yX6_readText wsX6_readText) := goodIn_app (goodIn_of _ (by decide +kernel)) ggX6_load_X6_readText
set_option maxRecDepth 20000 in
theorem ggX6_load_X6_refused : GoodIn wsX6_load wsX6_refused := goodIn_r _ [87, 88, 92, 93, 94, 95, 96, 97, 98, 99, 100, 101, 102] (by decide +kernel) (by decide +kernel)
set_option maxRecDepth 20000 in
theorem gX6_load_X6_refused : GoodIn wsX6_load (wsV RX6 92 RX6 yX6_refused wsX6_refused) := goodIn_app (goodIn_of _ (by decide +kernel)) ggX6_load_X6_refused
set_option maxRecDepth 20000 in
theorem ggX6_load_X6_copyTerm : GoodIn wsX6_load wsX6_copyTerm := goodIn_r _ [91] (by decide +kernel) (by decide +kernel)
set_option maxRecDepth 20000 in
theorem gX6_load_X6_copyTerm : GoodIn wsX6_load (va_wsS RX6 144 yX6_copyTerm wsX6_copyTerm) := goodIn_app (goodIn_of _ (by decide +kernel)) ggX6_load_X6_copyTerm
theorem dX6_load_0 : decode cX6_load 0 = .ok (.aload_n 0, 1) := by decide +kernel
theorem dX6_load_1 : decode cX6_load 1 = .ok (.aload_n 0, 1) := by decide +kernel
theorem dX6_load_2 : decode cX6_load 2 = .ok (.aload_n 0, 1) := by decide +kernel
theorem dX6_load_3 : decode cX6_load 3 = .ok (.getfield 16, 3) := by decide +kernel
theorem dX6_load_6 : decode cX6_load 6 = .ok (.invokevirtual 140, 3) := by decide +kernel
theorem dX6_load_9 : decode cX6_load 9 = .ok (.iconst (-1), 1) := by decide +kernel
theorem dX6_load_10 : decode cX6_load 10 = .ok (.if_icmp .ne 7, 3) := by decide +kernel
theorem dX6_load_13 : decode cX6_load 13 = .ok (.iconst 0, 1) := by decide +kernel
theorem dX6_load_14 : decode cX6_load 14 = .ok (.goto 4, 3) := by decide +kernel
theorem dX6_load_17 : decode cX6_load 17 = .ok (.iconst 1, 1) := by decide +kernel
theorem dX6_load_18 : decode cX6_load 18 = .ok (.invokevirtual 92, 3) := by decide +kernel
theorem dX6_load_21 : decode cX6_load 21 = .ok (.ifCond .eq 5, 3) := by decide +kernel
theorem dX6_load_24 : decode cX6_load 24 = .ok (.iconst 0, 1) := by decide +kernel
theorem dX6_load_25 : decode cX6_load 25 = .ok (.ireturn, 1) := by decide +kernel
theorem dX6_load_26 : decode cX6_load 26 = .ok (.aload_n 0, 1) := by decide +kernel
theorem dX6_load_27 : decode cX6_load 27 = .ok (.getfield 16, 3) := by decide +kernel
theorem dX6_load_30 : decode cX6_load 30 = .ok (.iconst 0, 1) := by decide +kernel
theorem dX6_load_31 : decode cX6_load 31 = .ok (.aload_n 0, 1) := by decide +kernel
theorem dX6_load_32 : decode cX6_load 32 = .ok (.getfield 13, 3) := by decide +kernel
theorem dX6_load_35 : decode cX6_load 35 = .ok (.iconst 0, 1) := by decide +kernel
theorem dX6_load_36 : decode cX6_load 36 = .ok (.invokestatic 144, 3) := by decide +kernel
theorem dX6_load_39 : decode cX6_load 39 = .ok (.aload_n 0, 1) := by decide +kernel
theorem dX6_load_40 : decode cX6_load 40 = .ok (.iconst 0, 1) := by decide +kernel
theorem dX6_load_41 : decode cX6_load 41 = .ok (.putfield 148, 3) := by decide +kernel
theorem dX6_load_44 : decode cX6_load 44 = .ok (.aload_n 0, 1) := by decide +kernel
theorem dX6_load_45 : decode cX6_load 45 = .ok (.getfield 25, 3) := by decide +kernel
theorem dX6_load_48 : decode cX6_load 48 = .ok (.iconst 0, 1) := by decide +kernel
theorem dX6_load_49 : decode cX6_load 49 = .ok (.iconst 0, 1) := by decide +kernel
theorem dX6_load_50 : decode cX6_load 50 = .ok (.bastore, 1) := by decide +kernel
theorem dX6_load_51 : decode cX6_load 51 = .ok (.aload_n 0, 1) := by decide +kernel
theorem dX6_load_52 : decode cX6_load 52 = .ok (.getfield 25, 3) := by decide +kernel
theorem dX6_load_55 : decode cX6_load 55 = .ok (.iconst 1, 1) := by decide +kernel
theorem dX6_load_56 : decode cX6_load 56 = .ok (.iconst 0, 1) := by decide +kernel
theorem dX6_load_57 : decode cX6_load 57 = .ok (.bastore, 1) := by decide +kernel
theorem dX6_load_58 : decode cX6_load 58 = .ok (.aload_n 0, 1) := by decide +kernel
theorem dX6_load_59 : decode cX6_load 59 = .ok (.getfield 129, 3) := by decide +kernel
theorem dX6_load_62 : decode cX6_load 62 = .ok (.ireturn, 1) := by decide +kernel
set_option maxRecDepth 20000 in
theorem ggX6_about_X6_in : GoodIn wsX6_about wsX6_in := goodIn_r _ [6] (by decide +kernel) (by decide +kernel)
set_option maxRecDepth 20000 in
theorem gX6_about_X6_in : GoodIn wsX6_about (va_wsS RX6 37 yX6_in wsX6_in) := goodIn_app (goodIn_of _ (by decide +kernel)) ggX6_about_X6_in
set_option maxRecDepth 20000 in
theorem ggX6_about_X6_refused : GoodIn wsX6_about wsX6_refused := goodIn_r _ [10, 11, 27, 28, 29, 30, 31, 32, 33, 34, 35, 36, 37] (by decide +kernel) (by decide +kernel)
set_option maxRecDepth 20000 in
theorem gX6_about_X6_refused : GoodIn wsX6_about (wsV RX6 92 RX6 yX6_refused wsX6_refused) := goodIn_app (goodIn_of _ (by decide +kernel)) ggX6_about_X6_refused
set_option maxRecDepth 20000 in
theorem ggX6_about_X6_count : GoodIn wsX6_about wsX6_count := goodIn_r _ [14, 15, 16, 5, 17] (by decide +kernel) (by decide +kernel)
set_option maxRecDepth 20000 in
theorem gX6_about_X6_count : GoodIn wsX6_about (va_wsS RX6 49 yX6_count wsX6_count) := goodIn_app (goodIn_of _ (by decide +kernel)) ggX6_about_X6_count
set_option maxRecDepth 20000 in
theorem ggX6_about_X6_served : GoodIn wsX6_about wsX6_served := goodIn_r _ [20, 12, 13, 5, 14, 15, 16, 17] (by decide +kernel) (by decide +kernel)
set_option maxRecDepth 20000 in
theorem gX6_about_X6_served : GoodIn wsX6_about (va_wsS RX6 61 yX6_served wsX6_served) := goodIn_app (goodIn_of _ (by decide +kernel)) ggX6_about_X6_served
set_option maxRecDepth 20000 in
theorem ggX6_about_X6_charged : GoodIn wsX6_about wsX6_charged := goodIn_r _ [23, 15, 16, 5, 17] (by decide +kernel) (by decide +kernel)
set_option maxRecDepth 20000 in
theorem gX6_about_X6_charged : GoodIn wsX6_about (va_wsS RX6 153 yX6_charged wsX6_charged) := goodIn_app (goodIn_of _ (by decide +kernel)) ggX6_about_X6_charged
set_option maxRecDepth 20000 in
theorem ggX6_about_X6_sum : GoodIn wsX6_about wsX6_sum := goodIn_r _ [26] (by decide +kernel) (by decide +kernel)
set_option maxRecDepth 20000 in
theorem gX6_about_X6_sum : GoodIn wsX6_about (va_wsS RX6 69 yX6_sum wsX6_sum) := goodIn_app (goodIn_of _ (by decide +kernel)) ggX6_about_X6_sum
theorem dX6_about_0 : decode cX6_about 0 = .ok (.aload_n 0, 1) := by decide +kernel
theorem dX6_about_1 : decode cX6_about 1 = .ok (.iload_n 1, 1) := by decide +kernel
theorem dX6_about_2 : decode cX6_about 2 = .ok (.i2l, 1) := by decide +kernel
theorem dX6_about_3 : decode cX6_about 3 = .ok (.lconst 0, 1) := by decide +kernel
theorem dX6_about_4 : decode cX6_about 4 = .ok (.ldc2_w 151, 3) := by decide +kernel
theorem dX6_about_7 : decode cX6_about 7 = .ok (.invokestatic 37, 3) := by decide +kernel
theorem dX6_about_10 : decode cX6_about 10 = .ok (.ifCond .eq 7, 3) := by decide +kernel
theorem dX6_about_13 : decode cX6_about 13 = .ok (.iconst 0, 1) := by decide +kernel
theorem dX6_about_14 : decode cX6_about 14 = .ok (.goto 4, 3) := by decide +kernel
theorem dX6_about_17 : decode cX6_about 17 = .ok (.iconst 1, 1) := by decide +kernel
theorem dX6_about_18 : decode cX6_about 18 = .ok (.invokevirtual 92, 3) := by decide +kernel
theorem dX6_about_21 : decode cX6_about 21 = .ok (.ifCond .eq 5, 3) := by decide +kernel
theorem dX6_about_24 : decode cX6_about 24 = .ok (.iconst 0, 1) := by decide +kernel
theorem dX6_about_25 : decode cX6_about 25 = .ok (.ireturn, 1) := by decide +kernel
theorem dX6_about_26 : decode cX6_about 26 = .ok (.iload_n 1, 1) := by decide +kernel
theorem dX6_about_27 : decode cX6_about 27 = .ok (.tableswitch 157 0 10 #[57, 57, 64, 75, 85, 96, 107, 118, 129, 136, 146], 57) := by decide +kernel
theorem dX6_about_84 : decode cX6_about 84 = .ok (.aload_n 0, 1) := by decide +kernel
theorem dX6_about_85 : decode cX6_about 85 = .ok (.getfield 13, 3) := by decide +kernel
theorem dX6_about_88 : decode cX6_about 88 = .ok (.iload_n 1, 1) := by decide +kernel
theorem dX6_about_89 : decode cX6_about 89 = .ok (.iaload, 1) := by decide +kernel
theorem dX6_about_90 : decode cX6_about 90 = .ok (.ireturn, 1) := by decide +kernel
theorem dX6_about_91 : decode cX6_about 91 = .ok (.aload_n 0, 1) := by decide +kernel
theorem dX6_about_92 : decode cX6_about 92 = .ok (.getfield 13, 3) := by decide +kernel
theorem dX6_about_95 : decode cX6_about 95 = .ok (.iconst (-1), 1) := by decide +kernel
theorem dX6_about_96 : decode cX6_about 96 = .ok (.iconst (-1), 1) := by decide +kernel
theorem dX6_about_97 : decode cX6_about 97 = .ok (.iconst 1, 1) := by decide +kernel
theorem dX6_about_98 : decode cX6_about 98 = .ok (.invokestatic 49, 3) := by decide +kernel
theorem dX6_about_101 : decode cX6_about 101 = .ok (.ireturn, 1) := by decide +kernel
theorem dX6_about_102 : decode cX6_about 102 = .ok (.aload_n 0, 1) := by decide +kernel
theorem dX6_about_103 : decode cX6_about 103 = .ok (.getfield 13, 3) := by decide +kernel
theorem dX6_about_106 : decode cX6_about 106 = .ok (.iconst (-1), 1) := by decide +kernel
theorem dX6_about_107 : decode cX6_about 107 = .ok (.iconst (-1), 1) := by decide +kernel
theorem dX6_about_108 : decode cX6_about 108 = .ok (.invokestatic 61, 3) := by decide +kernel
theorem dX6_about_111 : decode cX6_about 111 = .ok (.ireturn, 1) := by decide +kernel
theorem dX6_about_112 : decode cX6_about 112 = .ok (.aload_n 0, 1) := by decide +kernel
theorem dX6_about_113 : decode cX6_about 113 = .ok (.getfield 13, 3) := by decide +kernel
theorem dX6_about_116 : decode cX6_about 116 = .ok (.iconst (-1), 1) := by decide +kernel
theorem dX6_about_117 : decode cX6_about 117 = .ok (.iconst (-1), 1) := by decide +kernel
theorem dX6_about_118 : decode cX6_about 118 = .ok (.iconst 2, 1) := by decide +kernel
theorem dX6_about_119 : decode cX6_about 119 = .ok (.invokestatic 49, 3) := by decide +kernel
theorem dX6_about_122 : decode cX6_about 122 = .ok (.ireturn, 1) := by decide +kernel
theorem dX6_about_123 : decode cX6_about 123 = .ok (.aload_n 0, 1) := by decide +kernel
theorem dX6_about_124 : decode cX6_about 124 = .ok (.getfield 13, 3) := by decide +kernel
theorem dX6_about_127 : decode cX6_about 127 = .ok (.iconst (-1), 1) := by decide +kernel
theorem dX6_about_128 : decode cX6_about 128 = .ok (.iconst (-1), 1) := by decide +kernel
theorem dX6_about_129 : decode cX6_about 129 = .ok (.iconst 3, 1) := by decide +kernel
theorem dX6_about_130 : decode cX6_about 130 = .ok (.invokestatic 49, 3) := by decide +kernel
theorem dX6_about_133 : decode cX6_about 133 = .ok (.ireturn, 1) := by decide +kernel
theorem dX6_about_134 : decode cX6_about 134 = .ok (.aload_n 0, 1) := by decide +kernel
theorem dX6_about_135 : decode cX6_about 135 = .ok (.getfield 13, 3) := by decide +kernel
theorem dX6_about_138 : decode cX6_about 138 = .ok (.iconst (-1), 1) := by decide +kernel
theorem dX6_about_139 : decode cX6_about 139 = .ok (.iconst (-1), 1) := by decide +kernel
theorem dX6_about_140 : decode cX6_about 140 = .ok (.iconst 4, 1) := by decide +kernel
theorem dX6_about_141 : decode cX6_about 141 = .ok (.invokestatic 49, 3) := by decide +kernel
theorem dX6_about_144 : decode cX6_about 144 = .ok (.ireturn, 1) := by decide +kernel
theorem dX6_about_145 : decode cX6_about 145 = .ok (.aload_n 0, 1) := by decide +kernel
theorem dX6_about_146 : decode cX6_about 146 = .ok (.getfield 13, 3) := by decide +kernel
theorem dX6_about_149 : decode cX6_about 149 = .ok (.iconst (-1), 1) := by decide +kernel
theorem dX6_about_150 : decode cX6_about 150 = .ok (.iconst (-1), 1) := by decide +kernel
theorem dX6_about_151 : decode cX6_about 151 = .ok (.iconst 5, 1) := by decide +kernel
theorem dX6_about_152 : decode cX6_about 152 = .ok (.invokestatic 49, 3) := by decide +kernel
theorem dX6_about_155 : decode cX6_about 155 = .ok (.ireturn, 1) := by decide +kernel
theorem dX6_about_156 : decode cX6_about 156 = .ok (.aload_n 0, 1) := by decide +kernel
theorem dX6_about_157 : decode cX6_about 157 = .ok (.getfield 13, 3) := by decide +kernel
theorem dX6_about_160 : decode cX6_about 160 = .ok (.iconst 4, 1) := by decide +kernel
theorem dX6_about_161 : decode cX6_about 161 = .ok (.iaload, 1) := by decide +kernel
theorem dX6_about_162 : decode cX6_about 162 = .ok (.ireturn, 1) := by decide +kernel
theorem dX6_about_163 : decode cX6_about 163 = .ok (.aload_n 0, 1) := by decide +kernel
theorem dX6_about_164 : decode cX6_about 164 = .ok (.getfield 13, 3) := by decide +kernel
theorem dX6_about_167 : decode cX6_about 167 = .ok (.iconst (-1), 1) := by decide +kernel
theorem dX6_about_168 : decode cX6_about 168 = .ok (.iconst (-1), 1) := by decide +kernel
theorem dX6_about_169 : decode cX6_about 169 = .ok (.invokestatic 153, 3) := by decide +kernel
theorem dX6_about_172 : decode cX6_about 172 = .ok (.ireturn, 1) := by decide +kernel
theorem dX6_about_173 : decode cX6_about 173 = .ok (.aload_n 0, 1) := by decide +kernel
theorem dX6_about_174 : decode cX6_about 174 = .ok (.getfield 13, 3) := by decide +kernel
theorem dX6_about_177 : decode cX6_about 177 = .ok (.bipush 110, 2) := by decide +kernel
theorem dX6_about_179 : decode cX6_about 179 = .ok (.iconst 5, 1) := by decide +kernel
theorem dX6_about_180 : decode cX6_about 180 = .ok (.invokestatic 69, 3) := by decide +kernel
theorem dX6_about_183 : decode cX6_about 183 = .ok (.ireturn, 1) := by decide +kernel
theorem dX6_about_184 : decode cX6_about 184 = .ok (.aload_n 0, 1) := by decide +kernel
theorem dX6_about_185 : decode cX6_about 185 = .ok (.getfield 13, 3) := by decide +kernel
theorem dX6_about_188 : decode cX6_about 188 = .ok (.bipush 69, 2) := by decide +kernel
theorem dX6_about_190 : decode cX6_about 190 = .ok (.aload_n 0, 1) := by decide +kernel
theorem dX6_about_191 : decode cX6_about 191 = .ok (.getfield 13, 3) := by decide +kernel
theorem dX6_about_194 : decode cX6_about 194 = .ok (.iconst 1, 1) := by decide +kernel
theorem dX6_about_195 : decode cX6_about 195 = .ok (.iaload, 1) := by decide +kernel
theorem dX6_about_196 : decode cX6_about 196 = .ok (.invokestatic 69, 3) := by decide +kernel
theorem dX6_about_199 : decode cX6_about 199 = .ok (.ireturn, 1) := by decide +kernel
set_option maxRecDepth 20000 in
theorem ggX6_bySiblings_X6_at : GoodIn wsX6_bySiblings wsX6_at := goodIn_r _ [5] (by decide +kernel) (by decide +kernel)
set_option maxRecDepth 20000 in
theorem gX6_bySiblings_X6_at : GoodIn wsX6_bySiblings (va_wsS RX6 45 yX6_at wsX6_at) := goodIn_app (goodIn_of _ (by decide +kernel)) ggX6_bySiblings_X6_at
theorem dX6_bySiblings_0 : decode cX6_bySiblings 0 = .ok (.iconst 0, 1) := by decide +kernel
theorem dX6_bySiblings_1 : decode cX6_bySiblings 1 = .ok (.istore_n 2, 1) := by decide +kernel
theorem dX6_bySiblings_2 : decode cX6_bySiblings 2 = .ok (.iconst 0, 1) := by decide +kernel
theorem dX6_bySiblings_3 : decode cX6_bySiblings 3 = .ok (.istore_n 3, 1) := by decide +kernel
theorem dX6_bySiblings_4 : decode cX6_bySiblings 4 = .ok (.iload_n 3, 1) := by decide +kernel
theorem dX6_bySiblings_5 : decode cX6_bySiblings 5 = .ok (.bipush 40, 2) := by decide +kernel
theorem dX6_bySiblings_7 : decode cX6_bySiblings 7 = .ok (.if_icmp .ge 52, 3) := by decide +kernel
theorem dX6_bySiblings_10 : decode cX6_bySiblings 10 = .ok (.iload_n 2, 1) := by decide +kernel
theorem dX6_bySiblings_11 : decode cX6_bySiblings 11 = .ok (.aload_n 0, 1) := by decide +kernel
theorem dX6_bySiblings_12 : decode cX6_bySiblings 12 = .ok (.getfield 13, 3) := by decide +kernel
theorem dX6_bySiblings_15 : decode cX6_bySiblings 15 = .ok (.bipush 115, 2) := by decide +kernel
theorem dX6_bySiblings_17 : decode cX6_bySiblings 17 = .ok (.iload_n 1, 1) := by decide +kernel
theorem dX6_bySiblings_18 : decode cX6_bySiblings 18 = .ok (.iload_n 3, 1) := by decide +kernel
theorem dX6_bySiblings_19 : decode cX6_bySiblings 19 = .ok (.invokestatic 45, 3) := by decide +kernel
theorem dX6_bySiblings_22 : decode cX6_bySiblings 22 = .ok (.iadd, 1) := by decide +kernel
theorem dX6_bySiblings_23 : decode cX6_bySiblings 23 = .ok (.iaload, 1) := by decide +kernel
theorem dX6_bySiblings_24 : decode cX6_bySiblings 24 = .ok (.iconst 2, 1) := by decide +kernel
theorem dX6_bySiblings_25 : decode cX6_bySiblings 25 = .ok (.if_icmp .ne 25, 3) := by decide +kernel
theorem dX6_bySiblings_28 : decode cX6_bySiblings 28 = .ok (.aload_n 0, 1) := by decide +kernel
theorem dX6_bySiblings_29 : decode cX6_bySiblings 29 = .ok (.getfield 13, 3) := by decide +kernel
theorem dX6_bySiblings_32 : decode cX6_bySiblings 32 = .ok (.sipush 1075, 3) := by decide +kernel
theorem dX6_bySiblings_35 : decode cX6_bySiblings 35 = .ok (.iload_n 1, 1) := by decide +kernel
theorem dX6_bySiblings_36 : decode cX6_bySiblings 36 = .ok (.iload_n 3, 1) := by decide +kernel
theorem dX6_bySiblings_37 : decode cX6_bySiblings 37 = .ok (.invokestatic 45, 3) := by decide +kernel
theorem dX6_bySiblings_40 : decode cX6_bySiblings 40 = .ok (.iadd, 1) := by decide +kernel
theorem dX6_bySiblings_41 : decode cX6_bySiblings 41 = .ok (.iaload, 1) := by decide +kernel
theorem dX6_bySiblings_42 : decode cX6_bySiblings 42 = .ok (.iload_n 1, 1) := by decide +kernel
theorem dX6_bySiblings_43 : decode cX6_bySiblings 43 = .ok (.if_icmp .eq 7, 3) := by decide +kernel
theorem dX6_bySiblings_46 : decode cX6_bySiblings 46 = .ok (.iconst 1, 1) := by decide +kernel
theorem dX6_bySiblings_47 : decode cX6_bySiblings 47 = .ok (.goto 4, 3) := by decide +kernel
theorem dX6_bySiblings_50 : decode cX6_bySiblings 50 = .ok (.iconst 0, 1) := by decide +kernel
theorem dX6_bySiblings_51 : decode cX6_bySiblings 51 = .ok (.iadd, 1) := by decide +kernel
theorem dX6_bySiblings_52 : decode cX6_bySiblings 52 = .ok (.istore_n 2, 1) := by decide +kernel
theorem dX6_bySiblings_53 : decode cX6_bySiblings 53 = .ok (.iinc 3 1, 3) := by decide +kernel
theorem dX6_bySiblings_56 : decode cX6_bySiblings 56 = .ok (.goto (-52), 3) := by decide +kernel
theorem dX6_bySiblings_59 : decode cX6_bySiblings 59 = .ok (.iload_n 2, 1) := by decide +kernel
theorem dX6_bySiblings_60 : decode cX6_bySiblings 60 = .ok (.ireturn, 1) := by decide +kernel
set_option maxRecDepth 20000 in
theorem ggX6_child_X6_isChild : GoodIn wsX6_child wsX6_isChild := goodIn_r _ [6, 7, 8, 5, 9] (by decide +kernel) (by decide +kernel)
set_option maxRecDepth 20000 in
theorem gX6_child_X6_isChild : GoodIn wsX6_child (va_wsS RX6 75 yX6_isChild wsX6_isChild) := goodIn_app (goodIn_of _ (by decide +kernel)) ggX6_child_X6_isChild
set_option maxRecDepth 20000 in
theorem ggX6_child_X6_in : GoodIn wsX6_child wsX6_in := goodIn_r _ [9] (by decide +kernel) (by decide +kernel)
set_option maxRecDepth 20000 in
theorem gX6_child_X6_in : GoodIn wsX6_child (va_wsS RX6 37 yX6_in wsX6_in) := goodIn_app (goodIn_of _ (by decide +kernel)) ggX6_child_X6_in
set_option maxRecDepth 20000 in
theorem ggX6_child_X6_refused : GoodIn wsX6_child wsX6_refused := goodIn_r _ [13, 14, 31, 32, 33, 34, 35, 36, 37, 38, 39, 40, 41] (by decide +kernel) (by decide +kernel)
set_option maxRecDepth 20000 in
theorem gX6_child_X6_refused : GoodIn wsX6_child (wsV RX6 92 RX6 yX6_refused wsX6_refused) := goodIn_app (goodIn_of _ (by decide +kernel)) ggX6_child_X6_refused
set_option maxRecDepth 20000 in
theorem ggX6_child_X6_served : GoodIn wsX6_child wsX6_served := goodIn_r _ [17, 18, 19, 5, 20, 21, 22, 23] (by decide +kernel) (by decide +kernel)
set_option maxRecDepth 20000 in
theorem gX6_child_X6_served : GoodIn wsX6_child (va_wsS RX6 61 yX6_served wsX6_served) := goodIn_app (goodIn_of _ (by decide +kernel)) ggX6_child_X6_served
set_option maxRecDepth 20000 in
theorem ggX6_child_X6_bySiblings : GoodIn wsX6_child wsX6_bySiblings := goodIn_r _ [27, 1, 21, 22, 5, 23, 31, 32, 33, 34, 35, 36, 37, 38, 39, 40, 41] (by decide +kernel) (by decide +kernel)
set_option maxRecDepth 20000 in
theorem gX6_child_X6_bySiblings : GoodIn wsX6_child (wsV RX6 158 RX6 yX6_bySiblings wsX6_bySiblings) := goodIn_app (goodIn_of _ (by decide +kernel)) ggX6_child_X6_bySiblings
set_option maxRecDepth 20000 in
theorem ggX6_child_X6_charged : GoodIn wsX6_child wsX6_charged := goodIn_r _ [30, 21, 22, 5, 23] (by decide +kernel) (by decide +kernel)
set_option maxRecDepth 20000 in
theorem gX6_child_X6_charged : GoodIn wsX6_child (va_wsS RX6 153 yX6_charged wsX6_charged) := goodIn_app (goodIn_of _ (by decide +kernel)) ggX6_child_X6_charged
set_option maxRecDepth 20000 in
theorem ggX6_child_X6_count : GoodIn wsX6_child wsX6_count := goodIn_r _ [20, 21, 22, 5, 23] (by decide +kernel) (by decide +kernel)
set_option maxRecDepth 20000 in
theorem gX6_child_X6_count : GoodIn wsX6_child (va_wsS RX6 49 yX6_count wsX6_count) := goodIn_app (goodIn_of _ (by decide +kernel)) ggX6_child_X6_count
theorem dX6_child_0 : decode cX6_child 0 = .ok (.aload_n 0, 1) := by decide +kernel
theorem dX6_child_1 : decode cX6_child 1 = .ok (.aload_n 0, 1) := by decide +kernel
theorem dX6_child_2 : decode cX6_child 2 = .ok (.getfield 13, 3) := by decide +kernel
theorem dX6_child_5 : decode cX6_child 5 = .ok (.iload_n 1, 1) := by decide +kernel
theorem dX6_child_6 : decode cX6_child 6 = .ok (.invokestatic 75, 3) := by decide +kernel
theorem dX6_child_9 : decode cX6_child 9 = .ok (.ifCond .ne 7, 3) := by decide +kernel
theorem dX6_child_12 : decode cX6_child 12 = .ok (.iconst 1, 1) := by decide +kernel
theorem dX6_child_13 : decode cX6_child 13 = .ok (.goto 20, 3) := by decide +kernel
theorem dX6_child_16 : decode cX6_child 16 = .ok (.iload_n 2, 1) := by decide +kernel
theorem dX6_child_17 : decode cX6_child 17 = .ok (.i2l, 1) := by decide +kernel
theorem dX6_child_18 : decode cX6_child 18 = .ok (.lconst 0, 1) := by decide +kernel
theorem dX6_child_19 : decode cX6_child 19 = .ok (.ldc2_w 156, 3) := by decide +kernel
theorem dX6_child_22 : decode cX6_child 22 = .ok (.invokestatic 37, 3) := by decide +kernel
theorem dX6_child_25 : decode cX6_child 25 = .ok (.ifCond .eq 7, 3) := by decide +kernel
theorem dX6_child_28 : decode cX6_child 28 = .ok (.iconst 0, 1) := by decide +kernel
theorem dX6_child_29 : decode cX6_child 29 = .ok (.goto 4, 3) := by decide +kernel
theorem dX6_child_32 : decode cX6_child 32 = .ok (.iconst 2, 1) := by decide +kernel
theorem dX6_child_33 : decode cX6_child 33 = .ok (.invokevirtual 92, 3) := by decide +kernel
theorem dX6_child_36 : decode cX6_child 36 = .ok (.ifCond .eq 5, 3) := by decide +kernel
theorem dX6_child_39 : decode cX6_child 39 = .ok (.iconst 0, 1) := by decide +kernel
theorem dX6_child_40 : decode cX6_child 40 = .ok (.ireturn, 1) := by decide +kernel
theorem dX6_child_41 : decode cX6_child 41 = .ok (.iload_n 2, 1) := by decide +kernel
theorem dX6_child_42 : decode cX6_child 42 = .ok (.tableswitch 122 0 7 #[46, 56, 66, 76, 86, 96, 106, 112], 46) := by decide +kernel
theorem dX6_child_88 : decode cX6_child 88 = .ok (.aload_n 0, 1) := by decide +kernel
theorem dX6_child_89 : decode cX6_child 89 = .ok (.getfield 13, 3) := by decide +kernel
theorem dX6_child_92 : decode cX6_child 92 = .ok (.bipush 45, 2) := by decide +kernel
theorem dX6_child_94 : decode cX6_child 94 = .ok (.iload_n 1, 1) := by decide +kernel
theorem dX6_child_95 : decode cX6_child 95 = .ok (.iadd, 1) := by decide +kernel
theorem dX6_child_96 : decode cX6_child 96 = .ok (.iaload, 1) := by decide +kernel
theorem dX6_child_97 : decode cX6_child 97 = .ok (.ireturn, 1) := by decide +kernel
theorem dX6_child_98 : decode cX6_child 98 = .ok (.aload_n 0, 1) := by decide +kernel
theorem dX6_child_99 : decode cX6_child 99 = .ok (.getfield 13, 3) := by decide +kernel
theorem dX6_child_102 : decode cX6_child 102 = .ok (.bipush 57, 2) := by decide +kernel
theorem dX6_child_104 : decode cX6_child 104 = .ok (.iload_n 1, 1) := by decide +kernel
theorem dX6_child_105 : decode cX6_child 105 = .ok (.iadd, 1) := by decide +kernel
theorem dX6_child_106 : decode cX6_child 106 = .ok (.iaload, 1) := by decide +kernel
theorem dX6_child_107 : decode cX6_child 107 = .ok (.ireturn, 1) := by decide +kernel
theorem dX6_child_108 : decode cX6_child 108 = .ok (.aload_n 0, 1) := by decide +kernel
theorem dX6_child_109 : decode cX6_child 109 = .ok (.getfield 13, 3) := by decide +kernel
theorem dX6_child_112 : decode cX6_child 112 = .ok (.bipush 69, 2) := by decide +kernel
theorem dX6_child_114 : decode cX6_child 114 = .ok (.iload_n 1, 1) := by decide +kernel
theorem dX6_child_115 : decode cX6_child 115 = .ok (.iadd, 1) := by decide +kernel
theorem dX6_child_116 : decode cX6_child 116 = .ok (.iaload, 1) := by decide +kernel
theorem dX6_child_117 : decode cX6_child 117 = .ok (.ireturn, 1) := by decide +kernel
theorem dX6_child_118 : decode cX6_child 118 = .ok (.aload_n 0, 1) := by decide +kernel
theorem dX6_child_119 : decode cX6_child 119 = .ok (.getfield 13, 3) := by decide +kernel
theorem dX6_child_122 : decode cX6_child 122 = .ok (.bipush 81, 2) := by decide +kernel
theorem dX6_child_124 : decode cX6_child 124 = .ok (.iload_n 1, 1) := by decide +kernel
theorem dX6_child_125 : decode cX6_child 125 = .ok (.iadd, 1) := by decide +kernel
theorem dX6_child_126 : decode cX6_child 126 = .ok (.iaload, 1) := by decide +kernel
theorem dX6_child_127 : decode cX6_child 127 = .ok (.ireturn, 1) := by decide +kernel
theorem dX6_child_128 : decode cX6_child 128 = .ok (.aload_n 0, 1) := by decide +kernel
theorem dX6_child_129 : decode cX6_child 129 = .ok (.getfield 13, 3) := by decide +kernel
theorem dX6_child_132 : decode cX6_child 132 = .ok (.bipush 93, 2) := by decide +kernel
theorem dX6_child_134 : decode cX6_child 134 = .ok (.iload_n 1, 1) := by decide +kernel
theorem dX6_child_135 : decode cX6_child 135 = .ok (.iadd, 1) := by decide +kernel
theorem dX6_child_136 : decode cX6_child 136 = .ok (.iaload, 1) := by decide +kernel
theorem dX6_child_137 : decode cX6_child 137 = .ok (.ireturn, 1) := by decide +kernel
theorem dX6_child_138 : decode cX6_child 138 = .ok (.aload_n 0, 1) := by decide +kernel
theorem dX6_child_139 : decode cX6_child 139 = .ok (.getfield 13, 3) := by decide +kernel
theorem dX6_child_142 : decode cX6_child 142 = .ok (.iload_n 1, 1) := by decide +kernel
theorem dX6_child_143 : decode cX6_child 143 = .ok (.iconst (-1), 1) := by decide +kernel
theorem dX6_child_144 : decode cX6_child 144 = .ok (.invokestatic 61, 3) := by decide +kernel
theorem dX6_child_147 : decode cX6_child 147 = .ok (.ireturn, 1) := by decide +kernel
theorem dX6_child_148 : decode cX6_child 148 = .ok (.aload_n 0, 1) := by decide +kernel
theorem dX6_child_149 : decode cX6_child 149 = .ok (.iload_n 1, 1) := by decide +kernel
theorem dX6_child_150 : decode cX6_child 150 = .ok (.invokevirtual 158, 3) := by decide +kernel
theorem dX6_child_153 : decode cX6_child 153 = .ok (.ireturn, 1) := by decide +kernel
theorem dX6_child_154 : decode cX6_child 154 = .ok (.aload_n 0, 1) := by decide +kernel
theorem dX6_child_155 : decode cX6_child 155 = .ok (.getfield 13, 3) := by decide +kernel
theorem dX6_child_158 : decode cX6_child 158 = .ok (.iconst (-1), 1) := by decide +kernel
theorem dX6_child_159 : decode cX6_child 159 = .ok (.iload_n 1, 1) := by decide +kernel
theorem dX6_child_160 : decode cX6_child 160 = .ok (.invokestatic 153, 3) := by decide +kernel
theorem dX6_child_163 : decode cX6_child 163 = .ok (.ireturn, 1) := by decide +kernel
theorem dX6_child_164 : decode cX6_child 164 = .ok (.aload_n 0, 1) := by decide +kernel
theorem dX6_child_165 : decode cX6_child 165 = .ok (.getfield 13, 3) := by decide +kernel
theorem dX6_child_168 : decode cX6_child 168 = .ok (.iload_n 1, 1) := by decide +kernel
theorem dX6_child_169 : decode cX6_child 169 = .ok (.iconst (-1), 1) := by decide +kernel
theorem dX6_child_170 : decode cX6_child 170 = .ok (.iconst 4, 1) := by decide +kernel
theorem dX6_child_171 : decode cX6_child 171 = .ok (.invokestatic 49, 3) := by decide +kernel
theorem dX6_child_174 : decode cX6_child 174 = .ok (.ireturn, 1) := by decide +kernel
set_option maxRecDepth 20000 in
theorem ggX6_family_X6_isFamily : GoodIn wsX6_family wsX6_isFamily := goodIn_r _ [6, 1, 7, 8, 5, 9] (by decide +kernel) (by decide +kernel)
set_option maxRecDepth 20000 in
theorem gX6_family_X6_isFamily : GoodIn wsX6_family (va_wsS RX6 162 yX6_isFamily wsX6_isFamily) := goodIn_app (goodIn_of _ (by decide +kernel)) ggX6_family_X6_isFamily
set_option maxRecDepth 20000 in
theorem ggX6_family_X6_in : GoodIn wsX6_family wsX6_in := goodIn_r _ [9] (by decide +kernel) (by decide +kernel)
set_option maxRecDepth 20000 in
theorem gX6_family_X6_in : GoodIn wsX6_family (va_wsS RX6 37 yX6_in wsX6_in) := goodIn_app (goodIn_of _ (by decide +kernel)) ggX6_family_X6_in
set_option maxRecDepth 20000 in
theorem ggX6_family_X6_refused : GoodIn wsX6_family wsX6_refused := goodIn_r _ [13, 14, 18, 19, 20, 21, 22, 23, 24, 25, 26, 27, 28] (by decide +kernel) (by decide +kernel)
set_option maxRecDepth 20000 in
theorem gX6_family_X6_refused : GoodIn wsX6_family (wsV RX6 92 RX6 yX6_refused wsX6_refused) := goodIn_app (goodIn_of _ (by decide +kernel)) ggX6_family_X6_refused
set_option maxRecDepth 20000 in
theorem ggX6_family_X6_debt : GoodIn wsX6_family wsX6_debt := goodIn_r _ [17] (by decide +kernel) (by decide +kernel)
set_option maxRecDepth 20000 in
theorem gX6_family_X6_debt : GoodIn wsX6_family (va_wsS RX6 72 yX6_debt wsX6_debt) := goodIn_app (goodIn_of _ (by decide +kernel)) ggX6_family_X6_debt
theorem dX6_family_0 : decode cX6_family 0 = .ok (.aload_n 0, 1) := by decide +kernel
theorem dX6_family_1 : decode cX6_family 1 = .ok (.iload_n 1, 1) := by decide +kernel
theorem dX6_family_2 : decode cX6_family 2 = .ok (.invokestatic 162, 3) := by decide +kernel
theorem dX6_family_5 : decode cX6_family 5 = .ok (.ifCond .ne 7, 3) := by decide +kernel
theorem dX6_family_8 : decode cX6_family 8 = .ok (.iconst 1, 1) := by decide +kernel
theorem dX6_family_9 : decode cX6_family 9 = .ok (.goto 20, 3) := by decide +kernel
theorem dX6_family_12 : decode cX6_family 12 = .ok (.iload_n 2, 1) := by decide +kernel
theorem dX6_family_13 : decode cX6_family 13 = .ok (.i2l, 1) := by decide +kernel
theorem dX6_family_14 : decode cX6_family 14 = .ok (.lconst 0, 1) := by decide +kernel
theorem dX6_family_15 : decode cX6_family 15 = .ok (.ldc2_w 41, 3) := by decide +kernel
theorem dX6_family_18 : decode cX6_family 18 = .ok (.invokestatic 37, 3) := by decide +kernel
theorem dX6_family_21 : decode cX6_family 21 = .ok (.ifCond .eq 7, 3) := by decide +kernel
theorem dX6_family_24 : decode cX6_family 24 = .ok (.iconst 0, 1) := by decide +kernel
theorem dX6_family_25 : decode cX6_family 25 = .ok (.goto 4, 3) := by decide +kernel
theorem dX6_family_28 : decode cX6_family 28 = .ok (.iconst 2, 1) := by decide +kernel
theorem dX6_family_29 : decode cX6_family 29 = .ok (.invokevirtual 92, 3) := by decide +kernel
theorem dX6_family_32 : decode cX6_family 32 = .ok (.ifCond .eq 5, 3) := by decide +kernel
theorem dX6_family_35 : decode cX6_family 35 = .ok (.iconst 0, 1) := by decide +kernel
theorem dX6_family_36 : decode cX6_family 36 = .ok (.ireturn, 1) := by decide +kernel
theorem dX6_family_37 : decode cX6_family 37 = .ok (.iconst 0, 1) := by decide +kernel
theorem dX6_family_38 : decode cX6_family 38 = .ok (.istore_n 3, 1) := by decide +kernel
theorem dX6_family_39 : decode cX6_family 39 = .ok (.iconst 0, 1) := by decide +kernel
theorem dX6_family_40 : decode cX6_family 40 = .ok (.istore 4, 2) := by decide +kernel
theorem dX6_family_42 : decode cX6_family 42 = .ok (.iconst 0, 1) := by decide +kernel
theorem dX6_family_43 : decode cX6_family 43 = .ok (.istore 5, 2) := by decide +kernel
theorem dX6_family_45 : decode cX6_family 45 = .ok (.iload 5, 2) := by decide +kernel
theorem dX6_family_47 : decode cX6_family 47 = .ok (.aload_n 0, 1) := by decide +kernel
theorem dX6_family_48 : decode cX6_family 48 = .ok (.getfield 13, 3) := by decide +kernel
theorem dX6_family_51 : decode cX6_family 51 = .ok (.iconst 1, 1) := by decide +kernel
theorem dX6_family_52 : decode cX6_family 52 = .ok (.iaload, 1) := by decide +kernel
theorem dX6_family_53 : decode cX6_family 53 = .ok (.if_icmp .ge 64, 3) := by decide +kernel
theorem dX6_family_56 : decode cX6_family 56 = .ok (.iload_n 3, 1) := by decide +kernel
theorem dX6_family_57 : decode cX6_family 57 = .ok (.aload_n 0, 1) := by decide +kernel
theorem dX6_family_58 : decode cX6_family 58 = .ok (.getfield 13, 3) := by decide +kernel
theorem dX6_family_61 : decode cX6_family 61 = .ok (.bipush 45, 2) := by decide +kernel
theorem dX6_family_63 : decode cX6_family 63 = .ok (.iload 5, 2) := by decide +kernel
theorem dX6_family_65 : decode cX6_family 65 = .ok (.iadd, 1) := by decide +kernel
theorem dX6_family_66 : decode cX6_family 66 = .ok (.iaload, 1) := by decide +kernel
theorem dX6_family_67 : decode cX6_family 67 = .ok (.iload_n 1, 1) := by decide +kernel
theorem dX6_family_68 : decode cX6_family 68 = .ok (.if_icmp .ne 7, 3) := by decide +kernel
theorem dX6_family_71 : decode cX6_family 71 = .ok (.iconst 1, 1) := by decide +kernel
theorem dX6_family_72 : decode cX6_family 72 = .ok (.goto 4, 3) := by decide +kernel
theorem dX6_family_75 : decode cX6_family 75 = .ok (.iconst 0, 1) := by decide +kernel
theorem dX6_family_76 : decode cX6_family 76 = .ok (.iadd, 1) := by decide +kernel
theorem dX6_family_77 : decode cX6_family 77 = .ok (.istore_n 3, 1) := by decide +kernel
theorem dX6_family_78 : decode cX6_family 78 = .ok (.iload 4, 2) := by decide +kernel
theorem dX6_family_80 : decode cX6_family 80 = .ok (.aload_n 0, 1) := by decide +kernel
theorem dX6_family_81 : decode cX6_family 81 = .ok (.getfield 13, 3) := by decide +kernel
theorem dX6_family_84 : decode cX6_family 84 = .ok (.bipush 45, 2) := by decide +kernel
theorem dX6_family_86 : decode cX6_family 86 = .ok (.iload 5, 2) := by decide +kernel
theorem dX6_family_88 : decode cX6_family 88 = .ok (.iadd, 1) := by decide +kernel
theorem dX6_family_89 : decode cX6_family 89 = .ok (.iaload, 1) := by decide +kernel
theorem dX6_family_90 : decode cX6_family 90 = .ok (.iload_n 1, 1) := by decide +kernel
theorem dX6_family_91 : decode cX6_family 91 = .ok (.if_icmp .ne 16, 3) := by decide +kernel
theorem dX6_family_94 : decode cX6_family 94 = .ok (.aload_n 0, 1) := by decide +kernel
theorem dX6_family_95 : decode cX6_family 95 = .ok (.getfield 13, 3) := by decide +kernel
theorem dX6_family_98 : decode cX6_family 98 = .ok (.bipush 69, 2) := by decide +kernel
theorem dX6_family_100 : decode cX6_family 100 = .ok (.iload 5, 2) := by decide +kernel
theorem dX6_family_102 : decode cX6_family 102 = .ok (.iadd, 1) := by decide +kernel
theorem dX6_family_103 : decode cX6_family 103 = .ok (.iaload, 1) := by decide +kernel
theorem dX6_family_104 : decode cX6_family 104 = .ok (.goto 4, 3) := by decide +kernel
theorem dX6_family_107 : decode cX6_family 107 = .ok (.iconst 0, 1) := by decide +kernel
theorem dX6_family_108 : decode cX6_family 108 = .ok (.iadd, 1) := by decide +kernel
theorem dX6_family_109 : decode cX6_family 109 = .ok (.istore 4, 2) := by decide +kernel
theorem dX6_family_111 : decode cX6_family 111 = .ok (.iinc 5 1, 3) := by decide +kernel
theorem dX6_family_114 : decode cX6_family 114 = .ok (.goto (-69), 3) := by decide +kernel
theorem dX6_family_117 : decode cX6_family 117 = .ok (.iload_n 2, 1) := by decide +kernel
theorem dX6_family_118 : decode cX6_family 118 = .ok (.ifCond .ne 7, 3) := by decide +kernel
theorem dX6_family_121 : decode cX6_family 121 = .ok (.iload_n 3, 1) := by decide +kernel
theorem dX6_family_122 : decode cX6_family 122 = .ok (.goto 55, 3) := by decide +kernel
theorem dX6_family_125 : decode cX6_family 125 = .ok (.iload_n 2, 1) := by decide +kernel
theorem dX6_family_126 : decode cX6_family 126 = .ok (.iconst 1, 1) := by decide +kernel
theorem dX6_family_127 : decode cX6_family 127 = .ok (.if_icmp .ne 15, 3) := by decide +kernel
theorem dX6_family_130 : decode cX6_family 130 = .ok (.aload_n 0, 1) := by decide +kernel
theorem dX6_family_131 : decode cX6_family 131 = .ok (.getfield 13, 3) := by decide +kernel
theorem dX6_family_134 : decode cX6_family 134 = .ok (.bipush 105, 2) := by decide +kernel
theorem dX6_family_136 : decode cX6_family 136 = .ok (.iload_n 1, 1) := by decide +kernel
theorem dX6_family_137 : decode cX6_family 137 = .ok (.iadd, 1) := by decide +kernel
theorem dX6_family_138 : decode cX6_family 138 = .ok (.iaload, 1) := by decide +kernel
theorem dX6_family_139 : decode cX6_family 139 = .ok (.goto 38, 3) := by decide +kernel
theorem dX6_family_142 : decode cX6_family 142 = .ok (.iload_n 2, 1) := by decide +kernel
theorem dX6_family_143 : decode cX6_family 143 = .ok (.iconst 2, 1) := by decide +kernel
theorem dX6_family_144 : decode cX6_family 144 = .ok (.if_icmp .ne 8, 3) := by decide +kernel
theorem dX6_family_147 : decode cX6_family 147 = .ok (.iload 4, 2) := by decide +kernel
theorem dX6_family_149 : decode cX6_family 149 = .ok (.goto 28, 3) := by decide +kernel
theorem dX6_family_152 : decode cX6_family 152 = .ok (.iload_n 2, 1) := by decide +kernel
theorem dX6_family_153 : decode cX6_family 153 = .ok (.iconst 3, 1) := by decide +kernel
theorem dX6_family_154 : decode cX6_family 154 = .ok (.if_icmp .ne 14, 3) := by decide +kernel
theorem dX6_family_157 : decode cX6_family 157 = .ok (.aload_n 0, 1) := by decide +kernel
theorem dX6_family_158 : decode cX6_family 158 = .ok (.getfield 13, 3) := by decide +kernel
theorem dX6_family_161 : decode cX6_family 161 = .ok (.iload_n 1, 1) := by decide +kernel
theorem dX6_family_162 : decode cX6_family 162 = .ok (.invokestatic 72, 3) := by decide +kernel
theorem dX6_family_165 : decode cX6_family 165 = .ok (.goto 12, 3) := by decide +kernel
theorem dX6_family_168 : decode cX6_family 168 = .ok (.aload_n 0, 1) := by decide +kernel
theorem dX6_family_169 : decode cX6_family 169 = .ok (.getfield 13, 3) := by decide +kernel
theorem dX6_family_172 : decode cX6_family 172 = .ok (.bipush 110, 2) := by decide +kernel
theorem dX6_family_174 : decode cX6_family 174 = .ok (.iload_n 1, 1) := by decide +kernel
theorem dX6_family_175 : decode cX6_family 175 = .ok (.iadd, 1) := by decide +kernel
theorem dX6_family_176 : decode cX6_family 176 = .ok (.iaload, 1) := by decide +kernel
theorem dX6_family_177 : decode cX6_family 177 = .ok (.ireturn, 1) := by decide +kernel
set_option maxRecDepth 20000 in
theorem ggX6_day_X6_isDay : GoodIn wsX6_day wsX6_isDay := goodIn_r _ [6, 7, 8, 9, 5, 10] (by decide +kernel) (by decide +kernel)
set_option maxRecDepth 20000 in
theorem gX6_day_X6_isDay : GoodIn wsX6_day (va_wsS RX6 79 yX6_isDay wsX6_isDay) := goodIn_app (goodIn_of _ (by decide +kernel)) ggX6_day_X6_isDay
set_option maxRecDepth 20000 in
theorem ggX6_day_X6_in : GoodIn wsX6_day wsX6_in := goodIn_r _ [10] (by decide +kernel) (by decide +kernel)
set_option maxRecDepth 20000 in
theorem gX6_day_X6_in : GoodIn wsX6_day (va_wsS RX6 37 yX6_in wsX6_in) := goodIn_app (goodIn_of _ (by decide +kernel)) ggX6_day_X6_in
set_option maxRecDepth 20000 in
theorem ggX6_day_X6_refused : GoodIn wsX6_day wsX6_refused := goodIn_r _ [14, 15, 28, 29, 30, 31, 32, 33, 34, 35, 36, 37, 38] (by decide +kernel) (by decide +kernel)
set_option maxRecDepth 20000 in
theorem gX6_day_X6_refused : GoodIn wsX6_day (wsV RX6 92 RX6 yX6_refused wsX6_refused) := goodIn_app (goodIn_of _ (by decide +kernel)) ggX6_day_X6_refused
set_option maxRecDepth 20000 in
theorem ggX6_day_X6_served : GoodIn wsX6_day wsX6_served := goodIn_r _ [18, 19, 20, 5, 21, 22, 23, 24] (by decide +kernel) (by decide +kernel)
set_option maxRecDepth 20000 in
theorem gX6_day_X6_served : GoodIn wsX6_day (va_wsS RX6 61 yX6_served wsX6_served) := goodIn_app (goodIn_of _ (by decide +kernel)) ggX6_day_X6_served
set_option maxRecDepth 20000 in
theorem ggX6_day_X6_count : GoodIn wsX6_day wsX6_count := goodIn_r _ [21, 22, 23, 5, 24] (by decide +kernel) (by decide +kernel)
set_option maxRecDepth 20000 in
theorem gX6_day_X6_count : GoodIn wsX6_day (va_wsS RX6 49 yX6_count wsX6_count) := goodIn_app (goodIn_of _ (by decide +kernel)) ggX6_day_X6_count
set_option maxRecDepth 20000 in
theorem ggX6_day_X6_charged : GoodIn wsX6_day wsX6_charged := goodIn_r _ [27, 22, 23, 5, 24] (by decide +kernel) (by decide +kernel)
set_option maxRecDepth 20000 in
theorem gX6_day_X6_charged : GoodIn wsX6_day (va_wsS RX6 153 yX6_charged wsX6_charged) := goodIn_app (goodIn_of _ (by decide +kernel)) ggX6_day_X6_charged
theorem dX6_day_0 : decode cX6_day 0 = .ok (.aload_n 0, 1) := by decide +kernel
theorem dX6_day_1 : decode cX6_day 1 = .ok (.iload_n 1, 1) := by decide +kernel
theorem dX6_day_2 : decode cX6_day 2 = .ok (.invokestatic 79, 3) := by decide +kernel
theorem dX6_day_5 : decode cX6_day 5 = .ok (.ifCond .ne 7, 3) := by decide +kernel
theorem dX6_day_8 : decode cX6_day 8 = .ok (.iconst 1, 1) := by decide +kernel
theorem dX6_day_9 : decode cX6_day 9 = .ok (.goto 20, 3) := by decide +kernel
theorem dX6_day_12 : decode cX6_day 12 = .ok (.iload_n 2, 1) := by decide +kernel
theorem dX6_day_13 : decode cX6_day 13 = .ok (.i2l, 1) := by decide +kernel
theorem dX6_day_14 : decode cX6_day 14 = .ok (.lconst 0, 1) := by decide +kernel
theorem dX6_day_15 : decode cX6_day 15 = .ok (.ldc2_w 165, 3) := by decide +kernel
theorem dX6_day_18 : decode cX6_day 18 = .ok (.invokestatic 37, 3) := by decide +kernel
theorem dX6_day_21 : decode cX6_day 21 = .ok (.ifCond .eq 7, 3) := by decide +kernel
theorem dX6_day_24 : decode cX6_day 24 = .ok (.iconst 0, 1) := by decide +kernel
theorem dX6_day_25 : decode cX6_day 25 = .ok (.goto 4, 3) := by decide +kernel
theorem dX6_day_28 : decode cX6_day 28 = .ok (.iconst 2, 1) := by decide +kernel
theorem dX6_day_29 : decode cX6_day 29 = .ok (.invokevirtual 92, 3) := by decide +kernel
theorem dX6_day_32 : decode cX6_day 32 = .ok (.ifCond .eq 5, 3) := by decide +kernel
theorem dX6_day_35 : decode cX6_day 35 = .ok (.iconst 0, 1) := by decide +kernel
theorem dX6_day_36 : decode cX6_day 36 = .ok (.ireturn, 1) := by decide +kernel
theorem dX6_day_37 : decode cX6_day 37 = .ok (.aload_n 0, 1) := by decide +kernel
theorem dX6_day_38 : decode cX6_day 38 = .ok (.getfield 13, 3) := by decide +kernel
theorem dX6_day_41 : decode cX6_day 41 = .ok (.iconst (-1), 1) := by decide +kernel
theorem dX6_day_42 : decode cX6_day 42 = .ok (.iload_n 1, 1) := by decide +kernel
theorem dX6_day_43 : decode cX6_day 43 = .ok (.invokestatic 61, 3) := by decide +kernel
theorem dX6_day_46 : decode cX6_day 46 = .ok (.aload_n 0, 1) := by decide +kernel
theorem dX6_day_47 : decode cX6_day 47 = .ok (.getfield 13, 3) := by decide +kernel
theorem dX6_day_50 : decode cX6_day 50 = .ok (.iconst (-1), 1) := by decide +kernel
theorem dX6_day_51 : decode cX6_day 51 = .ok (.iload_n 1, 1) := by decide +kernel
theorem dX6_day_52 : decode cX6_day 52 = .ok (.iconst 1, 1) := by decide +kernel
theorem dX6_day_53 : decode cX6_day 53 = .ok (.invokestatic 49, 3) := by decide +kernel
theorem dX6_day_56 : decode cX6_day 56 = .ok (.iadd, 1) := by decide +kernel
theorem dX6_day_57 : decode cX6_day 57 = .ok (.aload_n 0, 1) := by decide +kernel
theorem dX6_day_58 : decode cX6_day 58 = .ok (.getfield 13, 3) := by decide +kernel
theorem dX6_day_61 : decode cX6_day 61 = .ok (.iconst (-1), 1) := by decide +kernel
theorem dX6_day_62 : decode cX6_day 62 = .ok (.iload_n 1, 1) := by decide +kernel
theorem dX6_day_63 : decode cX6_day 63 = .ok (.iconst 4, 1) := by decide +kernel
theorem dX6_day_64 : decode cX6_day 64 = .ok (.invokestatic 49, 3) := by decide +kernel
theorem dX6_day_67 : decode cX6_day 67 = .ok (.iadd, 1) := by decide +kernel
theorem dX6_day_68 : decode cX6_day 68 = .ok (.aload_n 0, 1) := by decide +kernel
theorem dX6_day_69 : decode cX6_day 69 = .ok (.getfield 13, 3) := by decide +kernel
theorem dX6_day_72 : decode cX6_day 72 = .ok (.iconst (-1), 1) := by decide +kernel
theorem dX6_day_73 : decode cX6_day 73 = .ok (.iload_n 1, 1) := by decide +kernel
theorem dX6_day_74 : decode cX6_day 74 = .ok (.iconst 5, 1) := by decide +kernel
theorem dX6_day_75 : decode cX6_day 75 = .ok (.invokestatic 49, 3) := by decide +kernel
theorem dX6_day_78 : decode cX6_day 78 = .ok (.iadd, 1) := by decide +kernel
theorem dX6_day_79 : decode cX6_day 79 = .ok (.istore_n 3, 1) := by decide +kernel
theorem dX6_day_80 : decode cX6_day 80 = .ok (.iload_n 2, 1) := by decide +kernel
theorem dX6_day_81 : decode cX6_day 81 = .ok (.ifCond .ne 14, 3) := by decide +kernel
theorem dX6_day_84 : decode cX6_day 84 = .ok (.aload_n 0, 1) := by decide +kernel
theorem dX6_day_85 : decode cX6_day 85 = .ok (.getfield 13, 3) := by decide +kernel
theorem dX6_day_88 : decode cX6_day 88 = .ok (.iconst 5, 1) := by decide +kernel
theorem dX6_day_89 : decode cX6_day 89 = .ok (.iload_n 1, 1) := by decide +kernel
theorem dX6_day_90 : decode cX6_day 90 = .ok (.iadd, 1) := by decide +kernel
theorem dX6_day_91 : decode cX6_day 91 = .ok (.iaload, 1) := by decide +kernel
theorem dX6_day_92 : decode cX6_day 92 = .ok (.goto 38, 3) := by decide +kernel
theorem dX6_day_95 : decode cX6_day 95 = .ok (.iload_n 2, 1) := by decide +kernel
theorem dX6_day_96 : decode cX6_day 96 = .ok (.iconst 1, 1) := by decide +kernel
theorem dX6_day_97 : decode cX6_day 97 = .ok (.if_icmp .ne 7, 3) := by decide +kernel
theorem dX6_day_100 : decode cX6_day 100 = .ok (.iload_n 3, 1) := by decide +kernel
theorem dX6_day_101 : decode cX6_day 101 = .ok (.goto 29, 3) := by decide +kernel
theorem dX6_day_104 : decode cX6_day 104 = .ok (.iload_n 2, 1) := by decide +kernel
theorem dX6_day_105 : decode cX6_day 105 = .ok (.iconst 2, 1) := by decide +kernel
theorem dX6_day_106 : decode cX6_day 106 = .ok (.if_icmp .ne 15, 3) := by decide +kernel
theorem dX6_day_109 : decode cX6_day 109 = .ok (.aload_n 0, 1) := by decide +kernel
theorem dX6_day_110 : decode cX6_day 110 = .ok (.getfield 13, 3) := by decide +kernel
theorem dX6_day_113 : decode cX6_day 113 = .ok (.iconst (-1), 1) := by decide +kernel
theorem dX6_day_114 : decode cX6_day 114 = .ok (.iload_n 1, 1) := by decide +kernel
theorem dX6_day_115 : decode cX6_day 115 = .ok (.invokestatic 61, 3) := by decide +kernel
theorem dX6_day_118 : decode cX6_day 118 = .ok (.goto 12, 3) := by decide +kernel
theorem dX6_day_121 : decode cX6_day 121 = .ok (.aload_n 0, 1) := by decide +kernel
theorem dX6_day_122 : decode cX6_day 122 = .ok (.getfield 13, 3) := by decide +kernel
theorem dX6_day_125 : decode cX6_day 125 = .ok (.iload_n 1, 1) := by decide +kernel
theorem dX6_day_126 : decode cX6_day 126 = .ok (.iconst (-1), 1) := by decide +kernel
theorem dX6_day_127 : decode cX6_day 127 = .ok (.invokestatic 153, 3) := by decide +kernel
theorem dX6_day_130 : decode cX6_day 130 = .ok (.ireturn, 1) := by decide +kernel
set_option maxRecDepth 20000 in
theorem ggX6_meal_X6_isChild : GoodIn wsX6_meal wsX6_isChild := goodIn_r _ [6, 7, 8, 5, 9] (by decide +kernel) (by decide +kernel)
set_option maxRecDepth 20000 in
theorem gX6_meal_X6_isChild : GoodIn wsX6_meal (va_wsS RX6 75 yX6_isChild wsX6_isChild) := goodIn_app (goodIn_of _ (by decide +kernel)) ggX6_meal_X6_isChild
set_option maxRecDepth 20000 in
theorem ggX6_meal_X6_isDay : GoodIn wsX6_meal wsX6_isDay := goodIn_r _ [12, 13, 7, 8, 5, 9] (by decide +kernel) (by decide +kernel)
set_option maxRecDepth 20000 in
theorem gX6_meal_X6_isDay : GoodIn wsX6_meal (va_wsS RX6 79 yX6_isDay wsX6_isDay) := goodIn_app (goodIn_of _ (by decide +kernel)) ggX6_meal_X6_isDay
set_option maxRecDepth 20000 in
theorem ggX6_meal_X6_in : GoodIn wsX6_meal wsX6_in := goodIn_r _ [9] (by decide +kernel) (by decide +kernel)
set_option maxRecDepth 20000 in
theorem gX6_meal_X6_in : GoodIn wsX6_meal (va_wsS RX6 37 yX6_in wsX6_in) := goodIn_app (goodIn_of _ (by decide +kernel)) ggX6_meal_X6_in
set_option maxRecDepth 20000 in
theorem ggX6_meal_X6_refused : GoodIn wsX6_meal wsX6_refused := goodIn_r _ [17, 18, 22, 23, 24, 25, 26, 27, 28, 29, 30, 31, 32] (by decide +kernel) (by decide +kernel)
set_option maxRecDepth 20000 in
theorem gX6_meal_X6_refused : GoodIn wsX6_meal (wsV RX6 92 RX6 yX6_refused wsX6_refused) := goodIn_app (goodIn_of _ (by decide +kernel)) ggX6_meal_X6_refused
set_option maxRecDepth 20000 in
theorem ggX6_meal_X6_at : GoodIn wsX6_meal wsX6_at := goodIn_r _ [21] (by decide +kernel) (by decide +kernel)
set_option maxRecDepth 20000 in
theorem gX6_meal_X6_at : GoodIn wsX6_meal (va_wsS RX6 45 yX6_at wsX6_at) := goodIn_app (goodIn_of _ (by decide +kernel)) ggX6_meal_X6_at
theorem dX6_meal_0 : decode cX6_meal 0 = .ok (.aload_n 0, 1) := by decide +kernel
theorem dX6_meal_1 : decode cX6_meal 1 = .ok (.aload_n 0, 1) := by decide +kernel
theorem dX6_meal_2 : decode cX6_meal 2 = .ok (.getfield 13, 3) := by decide +kernel
theorem dX6_meal_5 : decode cX6_meal 5 = .ok (.iload_n 1, 1) := by decide +kernel
theorem dX6_meal_6 : decode cX6_meal 6 = .ok (.invokestatic 75, 3) := by decide +kernel
theorem dX6_meal_9 : decode cX6_meal 9 = .ok (.ifCond .eq 10, 3) := by decide +kernel
theorem dX6_meal_12 : decode cX6_meal 12 = .ok (.iload_n 2, 1) := by decide +kernel
theorem dX6_meal_13 : decode cX6_meal 13 = .ok (.invokestatic 79, 3) := by decide +kernel
theorem dX6_meal_16 : decode cX6_meal 16 = .ok (.ifCond .ne 7, 3) := by decide +kernel
theorem dX6_meal_19 : decode cX6_meal 19 = .ok (.iconst 1, 1) := by decide +kernel
theorem dX6_meal_20 : decode cX6_meal 20 = .ok (.goto 20, 3) := by decide +kernel
theorem dX6_meal_23 : decode cX6_meal 23 = .ok (.iload_n 3, 1) := by decide +kernel
theorem dX6_meal_24 : decode cX6_meal 24 = .ok (.i2l, 1) := by decide +kernel
theorem dX6_meal_25 : decode cX6_meal 25 = .ok (.lconst 0, 1) := by decide +kernel
theorem dX6_meal_26 : decode cX6_meal 26 = .ok (.ldc2_w 167, 3) := by decide +kernel
theorem dX6_meal_29 : decode cX6_meal 29 = .ok (.invokestatic 37, 3) := by decide +kernel
theorem dX6_meal_32 : decode cX6_meal 32 = .ok (.ifCond .eq 7, 3) := by decide +kernel
theorem dX6_meal_35 : decode cX6_meal 35 = .ok (.iconst 0, 1) := by decide +kernel
theorem dX6_meal_36 : decode cX6_meal 36 = .ok (.goto 4, 3) := by decide +kernel
theorem dX6_meal_39 : decode cX6_meal 39 = .ok (.iconst 2, 1) := by decide +kernel
theorem dX6_meal_40 : decode cX6_meal 40 = .ok (.invokevirtual 92, 3) := by decide +kernel
theorem dX6_meal_43 : decode cX6_meal 43 = .ok (.ifCond .eq 5, 3) := by decide +kernel
theorem dX6_meal_46 : decode cX6_meal 46 = .ok (.iconst 0, 1) := by decide +kernel
theorem dX6_meal_47 : decode cX6_meal 47 = .ok (.ireturn, 1) := by decide +kernel
theorem dX6_meal_48 : decode cX6_meal 48 = .ok (.aload_n 0, 1) := by decide +kernel
theorem dX6_meal_49 : decode cX6_meal 49 = .ok (.getfield 13, 3) := by decide +kernel
theorem dX6_meal_52 : decode cX6_meal 52 = .ok (.bipush 115, 2) := by decide +kernel
theorem dX6_meal_54 : decode cX6_meal 54 = .ok (.iload_n 1, 1) := by decide +kernel
theorem dX6_meal_55 : decode cX6_meal 55 = .ok (.iload_n 2, 1) := by decide +kernel
theorem dX6_meal_56 : decode cX6_meal 56 = .ok (.invokestatic 45, 3) := by decide +kernel
theorem dX6_meal_59 : decode cX6_meal 59 = .ok (.iadd, 1) := by decide +kernel
theorem dX6_meal_60 : decode cX6_meal 60 = .ok (.iaload, 1) := by decide +kernel
theorem dX6_meal_61 : decode cX6_meal 61 = .ok (.istore 4, 2) := by decide +kernel
theorem dX6_meal_63 : decode cX6_meal 63 = .ok (.iload_n 3, 1) := by decide +kernel
theorem dX6_meal_64 : decode cX6_meal 64 = .ok (.ifCond .ne 6, 3) := by decide +kernel
theorem dX6_meal_67 : decode cX6_meal 67 = .ok (.iload 4, 2) := by decide +kernel
theorem dX6_meal_69 : decode cX6_meal 69 = .ok (.ireturn, 1) := by decide +kernel
theorem dX6_meal_70 : decode cX6_meal 70 = .ok (.iload 4, 2) := by decide +kernel
theorem dX6_meal_72 : decode cX6_meal 72 = .ok (.iconst 2, 1) := by decide +kernel
theorem dX6_meal_73 : decode cX6_meal 73 = .ok (.if_icmp .ne 31, 3) := by decide +kernel
theorem dX6_meal_76 : decode cX6_meal 76 = .ok (.aload_n 0, 1) := by decide +kernel
theorem dX6_meal_77 : decode cX6_meal 77 = .ok (.getfield 13, 3) := by decide +kernel
theorem dX6_meal_80 : decode cX6_meal 80 = .ok (.iload_n 3, 1) := by decide +kernel
theorem dX6_meal_81 : decode cX6_meal 81 = .ok (.iconst 1, 1) := by decide +kernel
theorem dX6_meal_82 : decode cX6_meal 82 = .ok (.if_icmp .ne 9, 3) := by decide +kernel
theorem dX6_meal_85 : decode cX6_meal 85 = .ok (.sipush 595, 3) := by decide +kernel
theorem dX6_meal_88 : decode cX6_meal 88 = .ok (.goto 6, 3) := by decide +kernel
theorem dX6_meal_91 : decode cX6_meal 91 = .ok (.sipush 1075, 3) := by decide +kernel
theorem dX6_meal_94 : decode cX6_meal 94 = .ok (.iload_n 1, 1) := by decide +kernel
theorem dX6_meal_95 : decode cX6_meal 95 = .ok (.iload_n 2, 1) := by decide +kernel
theorem dX6_meal_96 : decode cX6_meal 96 = .ok (.invokestatic 45, 3) := by decide +kernel
theorem dX6_meal_99 : decode cX6_meal 99 = .ok (.iadd, 1) := by decide +kernel
theorem dX6_meal_100 : decode cX6_meal 100 = .ok (.iaload, 1) := by decide +kernel
theorem dX6_meal_101 : decode cX6_meal 101 = .ok (.goto 19, 3) := by decide +kernel
theorem dX6_meal_104 : decode cX6_meal 104 = .ok (.iload_n 3, 1) := by decide +kernel
theorem dX6_meal_105 : decode cX6_meal 105 = .ok (.iconst 1, 1) := by decide +kernel
theorem dX6_meal_106 : decode cX6_meal 106 = .ok (.if_icmp .ne 13, 3) := by decide +kernel
theorem dX6_meal_109 : decode cX6_meal 109 = .ok (.iload 4, 2) := by decide +kernel
theorem dX6_meal_111 : decode cX6_meal 111 = .ok (.iconst 3, 1) := by decide +kernel
theorem dX6_meal_112 : decode cX6_meal 112 = .ok (.if_icmp .ne 7, 3) := by decide +kernel
theorem dX6_meal_115 : decode cX6_meal 115 = .ok (.iconst 0, 1) := by decide +kernel
theorem dX6_meal_116 : decode cX6_meal 116 = .ok (.goto 4, 3) := by decide +kernel
theorem dX6_meal_119 : decode cX6_meal 119 = .ok (.iconst (-1), 1) := by decide +kernel
theorem dX6_meal_120 : decode cX6_meal 120 = .ok (.ireturn, 1) := by decide +kernel
set_option maxRecDepth 20000 in
theorem ggX6_setting_X6_in : GoodIn wsX6_setting wsX6_in := goodIn_r _ [5] (by decide +kernel) (by decide +kernel)
set_option maxRecDepth 20000 in
theorem gX6_setting_X6_in : GoodIn wsX6_setting (va_wsS RX6 37 yX6_in wsX6_in) := goodIn_app (goodIn_of _ (by decide +kernel)) ggX6_setting_X6_in
set_option maxRecDepth 20000 in
theorem ggX6_setting_X6_refused : GoodIn wsX6_setting wsX6_refused := goodIn_r _ [9, 10, 11, 12, 13, 14, 15, 16, 17, 18, 19, 20, 21] (by decide +kernel) (by decide +kernel)
set_option maxRecDepth 20000 in
theorem gX6_setting_X6_refused : GoodIn wsX6_setting (wsV RX6 92 RX6 yX6_refused wsX6_refused) := goodIn_app (goodIn_of _ (by decide +kernel)) ggX6_setting_X6_refused
theorem dX6_setting_0 : decode cX6_setting 0 = .ok (.aload_n 0, 1) := by decide +kernel
theorem dX6_setting_1 : decode cX6_setting 1 = .ok (.iload_n 1, 1) := by decide +kernel
theorem dX6_setting_2 : decode cX6_setting 2 = .ok (.i2l, 1) := by decide +kernel
theorem dX6_setting_3 : decode cX6_setting 3 = .ok (.lconst 0, 1) := by decide +kernel
theorem dX6_setting_4 : decode cX6_setting 4 = .ok (.lconst 1, 1) := by decide +kernel
theorem dX6_setting_5 : decode cX6_setting 5 = .ok (.invokestatic 37, 3) := by decide +kernel
theorem dX6_setting_8 : decode cX6_setting 8 = .ok (.ifCond .eq 7, 3) := by decide +kernel
theorem dX6_setting_11 : decode cX6_setting 11 = .ok (.iconst 0, 1) := by decide +kernel
theorem dX6_setting_12 : decode cX6_setting 12 = .ok (.goto 4, 3) := by decide +kernel
theorem dX6_setting_15 : decode cX6_setting 15 = .ok (.iconst 1, 1) := by decide +kernel
theorem dX6_setting_16 : decode cX6_setting 16 = .ok (.invokevirtual 92, 3) := by decide +kernel
theorem dX6_setting_19 : decode cX6_setting 19 = .ok (.ifCond .eq 5, 3) := by decide +kernel
theorem dX6_setting_22 : decode cX6_setting 22 = .ok (.iconst 0, 1) := by decide +kernel
theorem dX6_setting_23 : decode cX6_setting 23 = .ok (.ireturn, 1) := by decide +kernel
theorem dX6_setting_24 : decode cX6_setting 24 = .ok (.aload_n 0, 1) := by decide +kernel
theorem dX6_setting_25 : decode cX6_setting 25 = .ok (.getfield 13, 3) := by decide +kernel
theorem dX6_setting_28 : decode cX6_setting 28 = .ok (.iconst 2, 1) := by decide +kernel
theorem dX6_setting_29 : decode cX6_setting 29 = .ok (.iload_n 1, 1) := by decide +kernel
theorem dX6_setting_30 : decode cX6_setting 30 = .ok (.iadd, 1) := by decide +kernel
theorem dX6_setting_31 : decode cX6_setting 31 = .ok (.iaload, 1) := by decide +kernel
theorem dX6_setting_32 : decode cX6_setting 32 = .ok (.ireturn, 1) := by decide +kernel
set_option maxRecDepth 20000 in
theorem ggX6_remember_X6_copyTerm : GoodIn wsX6_remember wsX6_copyTerm := goodIn_r _ [7] (by decide +kernel) (by decide +kernel)
set_option maxRecDepth 20000 in
theorem gX6_remember_X6_copyTerm : GoodIn wsX6_remember (va_wsS RX6 144 yX6_copyTerm wsX6_copyTerm) := goodIn_app (goodIn_of _ (by decide +kernel)) ggX6_remember_X6_copyTerm
theorem dX6_remember_0 : decode cX6_remember 0 = .ok (.aload_n 0, 1) := by decide +kernel
theorem dX6_remember_1 : decode cX6_remember 1 = .ok (.getfield 148, 3) := by decide +kernel
theorem dX6_remember_4 : decode cX6_remember 4 = .ok (.bipush 14, 2) := by decide +kernel
theorem dX6_remember_6 : decode cX6_remember 6 = .ok (.if_icmp .ne 44, 3) := by decide +kernel
theorem dX6_remember_9 : decode cX6_remember 9 = .ok (.iconst 0, 1) := by decide +kernel
theorem dX6_remember_10 : decode cX6_remember 10 = .ok (.istore_n 1, 1) := by decide +kernel
theorem dX6_remember_11 : decode cX6_remember 11 = .ok (.iload_n 1, 1) := by decide +kernel
theorem dX6_remember_12 : decode cX6_remember 12 = .ok (.sipush 20215, 3) := by decide +kernel
theorem dX6_remember_15 : decode cX6_remember 15 = .ok (.if_icmp .ge 25, 3) := by decide +kernel
theorem dX6_remember_18 : decode cX6_remember 18 = .ok (.aload_n 0, 1) := by decide +kernel
theorem dX6_remember_19 : decode cX6_remember 19 = .ok (.getfield 19, 3) := by decide +kernel
theorem dX6_remember_22 : decode cX6_remember 22 = .ok (.iload_n 1, 1) := by decide +kernel
theorem dX6_remember_23 : decode cX6_remember 23 = .ok (.aload_n 0, 1) := by decide +kernel
theorem dX6_remember_24 : decode cX6_remember 24 = .ok (.getfield 19, 3) := by decide +kernel
theorem dX6_remember_27 : decode cX6_remember 27 = .ok (.iload_n 1, 1) := by decide +kernel
theorem dX6_remember_28 : decode cX6_remember 28 = .ok (.sipush 1555, 3) := by decide +kernel
theorem dX6_remember_31 : decode cX6_remember 31 = .ok (.iadd, 1) := by decide +kernel
theorem dX6_remember_32 : decode cX6_remember 32 = .ok (.iaload, 1) := by decide +kernel
theorem dX6_remember_33 : decode cX6_remember 33 = .ok (.iastore, 1) := by decide +kernel
theorem dX6_remember_34 : decode cX6_remember 34 = .ok (.iinc 1 1, 3) := by decide +kernel
theorem dX6_remember_37 : decode cX6_remember 37 = .ok (.goto (-26), 3) := by decide +kernel
theorem dX6_remember_40 : decode cX6_remember 40 = .ok (.aload_n 0, 1) := by decide +kernel
theorem dX6_remember_41 : decode cX6_remember 41 = .ok (.dup, 1) := by decide +kernel
theorem dX6_remember_42 : decode cX6_remember 42 = .ok (.getfield 148, 3) := by decide +kernel
theorem dX6_remember_45 : decode cX6_remember 45 = .ok (.iconst 1, 1) := by decide +kernel
theorem dX6_remember_46 : decode cX6_remember 46 = .ok (.isub, 1) := by decide +kernel
theorem dX6_remember_47 : decode cX6_remember 47 = .ok (.putfield 148, 3) := by decide +kernel
theorem dX6_remember_50 : decode cX6_remember 50 = .ok (.aload_n 0, 1) := by decide +kernel
theorem dX6_remember_51 : decode cX6_remember 51 = .ok (.getfield 13, 3) := by decide +kernel
theorem dX6_remember_54 : decode cX6_remember 54 = .ok (.iconst 0, 1) := by decide +kernel
theorem dX6_remember_55 : decode cX6_remember 55 = .ok (.aload_n 0, 1) := by decide +kernel
theorem dX6_remember_56 : decode cX6_remember 56 = .ok (.getfield 19, 3) := by decide +kernel
theorem dX6_remember_59 : decode cX6_remember 59 = .ok (.sipush 1555, 3) := by decide +kernel
theorem dX6_remember_62 : decode cX6_remember 62 = .ok (.aload_n 0, 1) := by decide +kernel
theorem dX6_remember_63 : decode cX6_remember 63 = .ok (.getfield 148, 3) := by decide +kernel
theorem dX6_remember_66 : decode cX6_remember 66 = .ok (.imul, 1) := by decide +kernel
theorem dX6_remember_67 : decode cX6_remember 67 = .ok (.invokestatic 144, 3) := by decide +kernel
theorem dX6_remember_70 : decode cX6_remember 70 = .ok (.aload_n 0, 1) := by decide +kernel
theorem dX6_remember_71 : decode cX6_remember 71 = .ok (.dup, 1) := by decide +kernel
theorem dX6_remember_72 : decode cX6_remember 72 = .ok (.getfield 148, 3) := by decide +kernel
theorem dX6_remember_75 : decode cX6_remember 75 = .ok (.iconst 1, 1) := by decide +kernel
theorem dX6_remember_76 : decode cX6_remember 76 = .ok (.iadd, 1) := by decide +kernel
theorem dX6_remember_77 : decode cX6_remember 77 = .ok (.putfield 148, 3) := by decide +kernel
theorem dX6_remember_80 : decode cX6_remember 80 = .ok (.return_, 1) := by decide +kernel
set_option maxRecDepth 20000 in
theorem ggX6_come_X6_isFamily : GoodIn wsX6_come wsX6_isFamily := goodIn_r _ [6, 7, 8, 9, 5, 10] (by decide +kernel) (by decide +kernel)
set_option maxRecDepth 20000 in
theorem gX6_come_X6_isFamily : GoodIn wsX6_come (va_wsS RX6 162 yX6_isFamily wsX6_isFamily) := goodIn_app (goodIn_of _ (by decide +kernel)) ggX6_come_X6_isFamily
set_option maxRecDepth 20000 in
theorem ggX6_come_X6_in : GoodIn wsX6_come wsX6_in := goodIn_r _ [10] (by decide +kernel) (by decide +kernel)
set_option maxRecDepth 20000 in
theorem gX6_come_X6_in : GoodIn wsX6_come (va_wsS RX6 37 yX6_in wsX6_in) := goodIn_app (goodIn_of _ (by decide +kernel)) ggX6_come_X6_in
set_option maxRecDepth 20000 in
theorem ggX6_come_X6_refused : GoodIn wsX6_come wsX6_refused := goodIn_r _ [14, 15, 28, 29, 30, 31, 32, 33, 34, 35, 36, 37, 38] (by decide +kernel) (by decide +kernel)
set_option maxRecDepth 20000 in
theorem gX6_come_X6_refused : GoodIn wsX6_come (wsV RX6 92 RX6 yX6_refused wsX6_refused) := goodIn_app (goodIn_of _ (by decide +kernel)) ggX6_come_X6_refused
set_option maxRecDepth 20000 in
theorem ggX6_come_X6_remember : GoodIn wsX6_come wsX6_remember := goodIn_r _ [19, 20, 21, 2, 22, 23, 5, 24, 28, 29, 30, 31, 32, 33, 34, 35, 36, 37, 38] (by decide +kernel) (by decide +kernel)
set_option maxRecDepth 20000 in
theorem gX6_come_X6_remember : GoodIn wsX6_come (wsV RX6 169 RX6 yX6_remember wsX6_remember) := goodIn_app (goodIn_of _ (by decide +kernel)) ggX6_come_X6_remember
set_option maxRecDepth 20000 in
theorem ggX6_come_X6_comeOn : GoodIn wsX6_come wsX6_comeOn := goodIn_r _ [27] (by decide +kernel) (by decide +kernel)
set_option maxRecDepth 20000 in
theorem gX6_come_X6_comeOn : GoodIn wsX6_come (va_wsS RX6 100 yX6_comeOn wsX6_comeOn) := goodIn_app (goodIn_of _ (by decide +kernel)) ggX6_come_X6_comeOn
theorem dX6_come_0 : decode cX6_come 0 = .ok (.aload_n 0, 1) := by decide +kernel
theorem dX6_come_1 : decode cX6_come 1 = .ok (.iload_n 1, 1) := by decide +kernel
theorem dX6_come_2 : decode cX6_come 2 = .ok (.invokestatic 162, 3) := by decide +kernel
theorem dX6_come_5 : decode cX6_come 5 = .ok (.ifCond .ne 7, 3) := by decide +kernel
theorem dX6_come_8 : decode cX6_come 8 = .ok (.iconst 1, 1) := by decide +kernel
theorem dX6_come_9 : decode cX6_come 9 = .ok (.goto 35, 3) := by decide +kernel
theorem dX6_come_12 : decode cX6_come 12 = .ok (.iload_n 2, 1) := by decide +kernel
theorem dX6_come_13 : decode cX6_come 13 = .ok (.i2l, 1) := by decide +kernel
theorem dX6_come_14 : decode cX6_come 14 = .ok (.lconst 0, 1) := by decide +kernel
theorem dX6_come_15 : decode cX6_come 15 = .ok (.ldc2_w 165, 3) := by decide +kernel
theorem dX6_come_18 : decode cX6_come 18 = .ok (.invokestatic 37, 3) := by decide +kernel
theorem dX6_come_21 : decode cX6_come 21 = .ok (.ifCond .ne 7, 3) := by decide +kernel
theorem dX6_come_24 : decode cX6_come 24 = .ok (.iconst 2, 1) := by decide +kernel
theorem dX6_come_25 : decode cX6_come 25 = .ok (.goto 19, 3) := by decide +kernel
theorem dX6_come_28 : decode cX6_come 28 = .ok (.aload_n 0, 1) := by decide +kernel
theorem dX6_come_29 : decode cX6_come 29 = .ok (.getfield 13, 3) := by decide +kernel
theorem dX6_come_32 : decode cX6_come 32 = .ok (.iconst 1, 1) := by decide +kernel
theorem dX6_come_33 : decode cX6_come 33 = .ok (.iaload, 1) := by decide +kernel
theorem dX6_come_34 : decode cX6_come 34 = .ok (.bipush 12, 2) := by decide +kernel
theorem dX6_come_36 : decode cX6_come 36 = .ok (.if_icmp .ne 7, 3) := by decide +kernel
theorem dX6_come_39 : decode cX6_come 39 = .ok (.iconst 3, 1) := by decide +kernel
theorem dX6_come_40 : decode cX6_come 40 = .ok (.goto 4, 3) := by decide +kernel
theorem dX6_come_43 : decode cX6_come 43 = .ok (.iconst 0, 1) := by decide +kernel
theorem dX6_come_44 : decode cX6_come 44 = .ok (.invokevirtual 92, 3) := by decide +kernel
theorem dX6_come_47 : decode cX6_come 47 = .ok (.ifCond .eq 5, 3) := by decide +kernel
theorem dX6_come_50 : decode cX6_come 50 = .ok (.iconst 0, 1) := by decide +kernel
theorem dX6_come_51 : decode cX6_come 51 = .ok (.ireturn, 1) := by decide +kernel
theorem dX6_come_52 : decode cX6_come 52 = .ok (.aload_n 0, 1) := by decide +kernel
theorem dX6_come_53 : decode cX6_come 53 = .ok (.invokevirtual 169, 3) := by decide +kernel
theorem dX6_come_56 : decode cX6_come 56 = .ok (.aload_n 0, 1) := by decide +kernel
theorem dX6_come_57 : decode cX6_come 57 = .ok (.getfield 13, 3) := by decide +kernel
theorem dX6_come_60 : decode cX6_come 60 = .ok (.iload_n 1, 1) := by decide +kernel
theorem dX6_come_61 : decode cX6_come 61 = .ok (.iload_n 2, 1) := by decide +kernel
theorem dX6_come_62 : decode cX6_come 62 = .ok (.invokestatic 100, 3) := by decide +kernel
theorem dX6_come_65 : decode cX6_come 65 = .ok (.ireturn, 1) := by decide +kernel
set_option maxRecDepth 20000 in
theorem ggX6_menu_X6_isDay : GoodIn wsX6_menu wsX6_isDay := goodIn_r _ [6, 7, 8, 9, 5, 10] (by decide +kernel) (by decide +kernel)
set_option maxRecDepth 20000 in
theorem gX6_menu_X6_isDay : GoodIn wsX6_menu (va_wsS RX6 79 yX6_isDay wsX6_isDay) := goodIn_app (goodIn_of _ (by decide +kernel)) ggX6_menu_X6_isDay
set_option maxRecDepth 20000 in
theorem ggX6_menu_X6_in : GoodIn wsX6_menu wsX6_in := goodIn_r _ [10] (by decide +kernel) (by decide +kernel)
set_option maxRecDepth 20000 in
theorem gX6_menu_X6_in : GoodIn wsX6_menu (va_wsS RX6 37 yX6_in wsX6_in) := goodIn_app (goodIn_of _ (by decide +kernel)) ggX6_menu_X6_in
set_option maxRecDepth 20000 in
theorem ggX6_menu_X6_refused : GoodIn wsX6_menu wsX6_refused := goodIn_r _ [14, 15, 25, 26, 27, 28, 29, 30, 31, 32, 33, 34, 35] (by decide +kernel) (by decide +kernel)
set_option maxRecDepth 20000 in
theorem gX6_menu_X6_refused : GoodIn wsX6_menu (wsV RX6 92 RX6 yX6_refused wsX6_refused) := goodIn_app (goodIn_of _ (by decide +kernel)) ggX6_menu_X6_refused
set_option maxRecDepth 20000 in
theorem ggX6_menu_X6_remember : GoodIn wsX6_menu wsX6_remember := goodIn_r _ [19, 20, 21, 2, 22, 23, 5, 24, 25, 26, 27, 28, 29, 30, 31, 32, 33, 34, 35] (by decide +kernel) (by decide +kernel)
set_option maxRecDepth 20000 in
theorem gX6_menu_X6_remember : GoodIn wsX6_menu (wsV RX6 169 RX6 yX6_remember wsX6_remember) := goodIn_app (goodIn_of _ (by decide +kernel)) ggX6_menu_X6_remember
theorem dX6_menu_0 : decode cX6_menu 0 = .ok (.aload_n 0, 1) := by decide +kernel
theorem dX6_menu_1 : decode cX6_menu 1 = .ok (.iload_n 1, 1) := by decide +kernel
theorem dX6_menu_2 : decode cX6_menu 2 = .ok (.invokestatic 79, 3) := by decide +kernel
theorem dX6_menu_5 : decode cX6_menu 5 = .ok (.ifCond .ne 7, 3) := by decide +kernel
theorem dX6_menu_8 : decode cX6_menu 8 = .ok (.iconst 1, 1) := by decide +kernel
theorem dX6_menu_9 : decode cX6_menu 9 = .ok (.goto 34, 3) := by decide +kernel
theorem dX6_menu_12 : decode cX6_menu 12 = .ok (.iload_n 2, 1) := by decide +kernel
theorem dX6_menu_13 : decode cX6_menu 13 = .ok (.i2l, 1) := by decide +kernel
theorem dX6_menu_14 : decode cX6_menu 14 = .ok (.lconst 0, 1) := by decide +kernel
theorem dX6_menu_15 : decode cX6_menu 15 = .ok (.ldc2_w 165, 3) := by decide +kernel
theorem dX6_menu_18 : decode cX6_menu 18 = .ok (.invokestatic 37, 3) := by decide +kernel
theorem dX6_menu_21 : decode cX6_menu 21 = .ok (.ifCond .ne 7, 3) := by decide +kernel
theorem dX6_menu_24 : decode cX6_menu 24 = .ok (.iconst 2, 1) := by decide +kernel
theorem dX6_menu_25 : decode cX6_menu 25 = .ok (.goto 18, 3) := by decide +kernel
theorem dX6_menu_28 : decode cX6_menu 28 = .ok (.iload_n 1, 1) := by decide +kernel
theorem dX6_menu_29 : decode cX6_menu 29 = .ok (.aload_n 0, 1) := by decide +kernel
theorem dX6_menu_30 : decode cX6_menu 30 = .ok (.getfield 13, 3) := by decide +kernel
theorem dX6_menu_33 : decode cX6_menu 33 = .ok (.iconst 0, 1) := by decide +kernel
theorem dX6_menu_34 : decode cX6_menu 34 = .ok (.iaload, 1) := by decide +kernel
theorem dX6_menu_35 : decode cX6_menu 35 = .ok (.if_icmp .ge 7, 3) := by decide +kernel
theorem dX6_menu_38 : decode cX6_menu 38 = .ok (.iconst 3, 1) := by decide +kernel
theorem dX6_menu_39 : decode cX6_menu 39 = .ok (.goto 4, 3) := by decide +kernel
theorem dX6_menu_42 : decode cX6_menu 42 = .ok (.iconst 0, 1) := by decide +kernel
theorem dX6_menu_43 : decode cX6_menu 43 = .ok (.invokevirtual 92, 3) := by decide +kernel
theorem dX6_menu_46 : decode cX6_menu 46 = .ok (.ifCond .eq 5, 3) := by decide +kernel
theorem dX6_menu_49 : decode cX6_menu 49 = .ok (.iconst 0, 1) := by decide +kernel
theorem dX6_menu_50 : decode cX6_menu 50 = .ok (.ireturn, 1) := by decide +kernel
theorem dX6_menu_51 : decode cX6_menu 51 = .ok (.aload_n 0, 1) := by decide +kernel
theorem dX6_menu_52 : decode cX6_menu 52 = .ok (.invokevirtual 169, 3) := by decide +kernel
theorem dX6_menu_55 : decode cX6_menu 55 = .ok (.aload_n 0, 1) := by decide +kernel
theorem dX6_menu_56 : decode cX6_menu 56 = .ok (.getfield 13, 3) := by decide +kernel
theorem dX6_menu_59 : decode cX6_menu 59 = .ok (.iconst 5, 1) := by decide +kernel
theorem dX6_menu_60 : decode cX6_menu 60 = .ok (.iload_n 1, 1) := by decide +kernel
theorem dX6_menu_61 : decode cX6_menu 61 = .ok (.iadd, 1) := by decide +kernel
theorem dX6_menu_62 : decode cX6_menu 62 = .ok (.iaload, 1) := by decide +kernel
theorem dX6_menu_63 : decode cX6_menu 63 = .ok (.istore_n 3, 1) := by decide +kernel
theorem dX6_menu_64 : decode cX6_menu 64 = .ok (.aload_n 0, 1) := by decide +kernel
theorem dX6_menu_65 : decode cX6_menu 65 = .ok (.getfield 13, 3) := by decide +kernel
theorem dX6_menu_68 : decode cX6_menu 68 = .ok (.iconst 5, 1) := by decide +kernel
theorem dX6_menu_69 : decode cX6_menu 69 = .ok (.iload_n 1, 1) := by decide +kernel
theorem dX6_menu_70 : decode cX6_menu 70 = .ok (.iadd, 1) := by decide +kernel
theorem dX6_menu_71 : decode cX6_menu 71 = .ok (.iload_n 2, 1) := by decide +kernel
theorem dX6_menu_72 : decode cX6_menu 72 = .ok (.iastore, 1) := by decide +kernel
theorem dX6_menu_73 : decode cX6_menu 73 = .ok (.iload_n 3, 1) := by decide +kernel
theorem dX6_menu_74 : decode cX6_menu 74 = .ok (.ireturn, 1) := by decide +kernel
set_option maxRecDepth 20000 in
theorem ggX6_order_X6_whyNotOrder : GoodIn wsX6_order wsX6_whyNotOrder := goodIn_r _ [5, 6, 7, 4, 8, 9, 10, 11, 12, 13, 14, 15] (by decide +kernel) (by decide +kernel)
set_option maxRecDepth 20000 in
theorem gX6_order_X6_whyNotOrder : GoodIn wsX6_order (va_wsS RX6 103 yX6_whyNotOrder wsX6_whyNotOrder) := goodIn_app (goodIn_of _ (by decide +kernel)) ggX6_order_X6_whyNotOrder
set_option maxRecDepth 20000 in
theorem ggX6_order_X6_refused : GoodIn wsX6_order wsX6_refused := goodIn_r _ [19, 20, 39, 40, 41, 42, 43, 44, 45, 46, 47, 48, 49] (by decide +kernel) (by decide +kernel)
set_option maxRecDepth 20000 in
theorem gX6_order_X6_refused : GoodIn wsX6_order (wsV RX6 92 RX6 yX6_refused wsX6_refused) := goodIn_app (goodIn_of _ (by decide +kernel)) ggX6_order_X6_refused
set_option maxRecDepth 20000 in
theorem ggX6_order_X6_remember : GoodIn wsX6_order wsX6_remember := goodIn_r _ [24, 25, 26, 1, 27, 28, 4, 29, 39, 40, 41, 42, 43, 44, 45, 46, 47, 48, 49] (by decide +kernel) (by decide +kernel)
set_option maxRecDepth 20000 in
theorem gX6_order_X6_remember : GoodIn wsX6_order (wsV RX6 169 RX6 yX6_remember wsX6_remember) := goodIn_app (goodIn_of _ (by decide +kernel)) ggX6_order_X6_remember
set_option maxRecDepth 20000 in
theorem ggX6_order_X6_orderOn : GoodIn wsX6_order wsX6_orderOn := goodIn_r _ [32, 33, 34, 4, 35, 36, 37, 38] (by decide +kernel) (by decide +kernel)
set_option maxRecDepth 20000 in
theorem gX6_order_X6_orderOn : GoodIn wsX6_order (va_wsS RX6 106 yX6_orderOn wsX6_orderOn) := goodIn_app (goodIn_of _ (by decide +kernel)) ggX6_order_X6_orderOn
theorem dX6_order_0 : decode cX6_order 0 = .ok (.aload_n 0, 1) := by decide +kernel
theorem dX6_order_1 : decode cX6_order 1 = .ok (.aload_n 0, 1) := by decide +kernel
theorem dX6_order_2 : decode cX6_order 2 = .ok (.getfield 13, 3) := by decide +kernel
theorem dX6_order_5 : decode cX6_order 5 = .ok (.iload_n 1, 1) := by decide +kernel
theorem dX6_order_6 : decode cX6_order 6 = .ok (.iload_n 2, 1) := by decide +kernel
theorem dX6_order_7 : decode cX6_order 7 = .ok (.invokestatic 103, 3) := by decide +kernel
theorem dX6_order_10 : decode cX6_order 10 = .ok (.invokevirtual 92, 3) := by decide +kernel
theorem dX6_order_13 : decode cX6_order 13 = .ok (.ifCond .eq 5, 3) := by decide +kernel
theorem dX6_order_16 : decode cX6_order 16 = .ok (.iconst 0, 1) := by decide +kernel
theorem dX6_order_17 : decode cX6_order 17 = .ok (.ireturn, 1) := by decide +kernel
theorem dX6_order_18 : decode cX6_order 18 = .ok (.aload_n 0, 1) := by decide +kernel
theorem dX6_order_19 : decode cX6_order 19 = .ok (.invokevirtual 169, 3) := by decide +kernel
theorem dX6_order_22 : decode cX6_order 22 = .ok (.aload_n 0, 1) := by decide +kernel
theorem dX6_order_23 : decode cX6_order 23 = .ok (.getfield 13, 3) := by decide +kernel
theorem dX6_order_26 : decode cX6_order 26 = .ok (.iload_n 1, 1) := by decide +kernel
theorem dX6_order_27 : decode cX6_order 27 = .ok (.iload_n 2, 1) := by decide +kernel
theorem dX6_order_28 : decode cX6_order 28 = .ok (.iload_n 3, 1) := by decide +kernel
theorem dX6_order_29 : decode cX6_order 29 = .ok (.invokestatic 106, 3) := by decide +kernel
theorem dX6_order_32 : decode cX6_order 32 = .ok (.ireturn, 1) := by decide +kernel
set_option maxRecDepth 20000 in
theorem ggX6_pay_X6_whyNotPay : GoodIn wsX6_pay wsX6_whyNotPay := goodIn_r _ [5, 6, 7, 8, 9, 4, 10, 11, 12, 13] (by decide +kernel) (by decide +kernel)
set_option maxRecDepth 20000 in
theorem gX6_pay_X6_whyNotPay : GoodIn wsX6_pay (va_wsS RX6 172 yX6_whyNotPay wsX6_whyNotPay) := goodIn_app (goodIn_of _ (by decide +kernel)) ggX6_pay_X6_whyNotPay
set_option maxRecDepth 20000 in
theorem ggX6_pay_X6_refused : GoodIn wsX6_pay wsX6_refused := goodIn_r _ [17, 18, 31, 32, 33, 34, 35, 36, 37, 38, 39, 40, 41] (by decide +kernel) (by decide +kernel)
set_option maxRecDepth 20000 in
theorem gX6_pay_X6_refused : GoodIn wsX6_pay (wsV RX6 92 RX6 yX6_refused wsX6_refused) := goodIn_app (goodIn_of _ (by decide +kernel)) ggX6_pay_X6_refused
set_option maxRecDepth 20000 in
theorem ggX6_pay_X6_remember : GoodIn wsX6_pay wsX6_remember := goodIn_r _ [22, 23, 24, 1, 25, 26, 4, 27, 31, 32, 33, 34, 35, 36, 37, 38, 39, 40, 41] (by decide +kernel) (by decide +kernel)
set_option maxRecDepth 20000 in
theorem gX6_pay_X6_remember : GoodIn wsX6_pay (wsV RX6 169 RX6 yX6_remember wsX6_remember) := goodIn_app (goodIn_of _ (by decide +kernel)) ggX6_pay_X6_remember
set_option maxRecDepth 20000 in
theorem ggX6_pay_X6_payOn : GoodIn wsX6_pay wsX6_payOn := goodIn_r _ [30] (by decide +kernel) (by decide +kernel)
set_option maxRecDepth 20000 in
theorem gX6_pay_X6_payOn : GoodIn wsX6_pay (va_wsS RX6 110 yX6_payOn wsX6_payOn) := goodIn_app (goodIn_of _ (by decide +kernel)) ggX6_pay_X6_payOn
theorem dX6_pay_0 : decode cX6_pay 0 = .ok (.aload_n 0, 1) := by decide +kernel
theorem dX6_pay_1 : decode cX6_pay 1 = .ok (.aload_n 0, 1) := by decide +kernel
theorem dX6_pay_2 : decode cX6_pay 2 = .ok (.getfield 13, 3) := by decide +kernel
theorem dX6_pay_5 : decode cX6_pay 5 = .ok (.iload_n 1, 1) := by decide +kernel
theorem dX6_pay_6 : decode cX6_pay 6 = .ok (.iload_n 2, 1) := by decide +kernel
