theorem dX12_oddsNow_48 : decode cX12_oddsNow 48 = .ok (.iconst 1, 1) := by decide +kernel
theorem dX12_oddsNow_49 : decode cX12_oddsNow 49 = .ok (.istore 6, 2) := by decide +kernel
theorem dX12_oddsNow_51 : decode cX12_oddsNow 51 = .ok (.iconst 0, 1) := by decide +kernel
theorem dX12_oddsNow_52 : decode cX12_oddsNow 52 = .ok (.istore 7, 2) := by decide +kernel
theorem dX12_oddsNow_54 : decode cX12_oddsNow 54 = .ok (.iload 7, 2) := by decide +kernel
theorem dX12_oddsNow_56 : decode cX12_oddsNow 56 = .ok (.iload_n 2, 1) := by decide +kernel
theorem dX12_oddsNow_57 : decode cX12_oddsNow 57 = .ok (.if_icmp .ge 168, 3) := by decide +kernel
theorem dX12_oddsNow_60 : decode cX12_oddsNow 60 = .ok (.aload_n 0, 1) := by decide +kernel
theorem dX12_oddsNow_61 : decode cX12_oddsNow 61 = .ok (.iload_n 1, 1) := by decide +kernel
theorem dX12_oddsNow_62 : decode cX12_oddsNow 62 = .ok (.invokevirtual 162, 3) := by decide +kernel
theorem dX12_oddsNow_65 : decode cX12_oddsNow 65 = .ok (.aload_n 0, 1) := by decide +kernel
theorem dX12_oddsNow_66 : decode cX12_oddsNow 66 = .ok (.getfield 16, 3) := by decide +kernel
theorem dX12_oddsNow_69 : decode cX12_oddsNow 69 = .ok (.iload_n 1, 1) := by decide +kernel
theorem dX12_oddsNow_70 : decode cX12_oddsNow 70 = .ok (.iaload, 1) := by decide +kernel
theorem dX12_oddsNow_71 : decode cX12_oddsNow 71 = .ok (.ifCond .le 7, 3) := by decide +kernel
theorem dX12_oddsNow_74 : decode cX12_oddsNow 74 = .ok (.iconst 1, 1) := by decide +kernel
theorem dX12_oddsNow_75 : decode cX12_oddsNow 75 = .ok (.goto 4, 3) := by decide +kernel
theorem dX12_oddsNow_78 : decode cX12_oddsNow 78 = .ok (.iconst 0, 1) := by decide +kernel
theorem dX12_oddsNow_79 : decode cX12_oddsNow 79 = .ok (.istore 8, 2) := by decide +kernel
theorem dX12_oddsNow_81 : decode cX12_oddsNow 81 = .ok (.bipush 10, 2) := by decide +kernel
theorem dX12_oddsNow_83 : decode cX12_oddsNow 83 = .ok (.iload 5, 2) := by decide +kernel
theorem dX12_oddsNow_85 : decode cX12_oddsNow 85 = .ok (.imul, 1) := by decide +kernel
theorem dX12_oddsNow_86 : decode cX12_oddsNow 86 = .ok (.iload 8, 2) := by decide +kernel
theorem dX12_oddsNow_88 : decode cX12_oddsNow 88 = .ok (.ifCond .eq 14, 3) := by decide +kernel
theorem dX12_oddsNow_91 : decode cX12_oddsNow 91 = .ok (.aload_n 0, 1) := by decide +kernel
theorem dX12_oddsNow_92 : decode cX12_oddsNow 92 = .ok (.getfield 59, 3) := by decide +kernel
theorem dX12_oddsNow_95 : decode cX12_oddsNow 95 = .ok (.iconst 2, 1) := by decide +kernel
theorem dX12_oddsNow_96 : decode cX12_oddsNow 96 = .ok (.iaload, 1) := by decide +kernel
theorem dX12_oddsNow_97 : decode cX12_oddsNow 97 = .ok (.iload_n 3, 1) := by decide +kernel
theorem dX12_oddsNow_98 : decode cX12_oddsNow 98 = .ok (.imul, 1) := by decide +kernel
theorem dX12_oddsNow_99 : decode cX12_oddsNow 99 = .ok (.goto 4, 3) := by decide +kernel
theorem dX12_oddsNow_102 : decode cX12_oddsNow 102 = .ok (.iconst 0, 1) := by decide +kernel
theorem dX12_oddsNow_103 : decode cX12_oddsNow 103 = .ok (.iadd, 1) := by decide +kernel
theorem dX12_oddsNow_104 : decode cX12_oddsNow 104 = .ok (.istore 5, 2) := by decide +kernel
theorem dX12_oddsNow_106 : decode cX12_oddsNow 106 = .ok (.aload_n 0, 1) := by decide +kernel
theorem dX12_oddsNow_107 : decode cX12_oddsNow 107 = .ok (.getfield 62, 3) := by decide +kernel
theorem dX12_oddsNow_110 : decode cX12_oddsNow 110 = .ok (.iconst 0, 1) := by decide +kernel
theorem dX12_oddsNow_111 : decode cX12_oddsNow 111 = .ok (.aload_n 0, 1) := by decide +kernel
theorem dX12_oddsNow_112 : decode cX12_oddsNow 112 = .ok (.getfield 59, 3) := by decide +kernel
theorem dX12_oddsNow_115 : decode cX12_oddsNow 115 = .ok (.iconst 0, 1) := by decide +kernel
theorem dX12_oddsNow_116 : decode cX12_oddsNow 116 = .ok (.iaload, 1) := by decide +kernel
theorem dX12_oddsNow_117 : decode cX12_oddsNow 117 = .ok (.aload_n 0, 1) := by decide +kernel
theorem dX12_oddsNow_118 : decode cX12_oddsNow 118 = .ok (.getfield 59, 3) := by decide +kernel
theorem dX12_oddsNow_121 : decode cX12_oddsNow 121 = .ok (.iconst 1, 1) := by decide +kernel
theorem dX12_oddsNow_122 : decode cX12_oddsNow 122 = .ok (.iaload, 1) := by decide +kernel
theorem dX12_oddsNow_123 : decode cX12_oddsNow 123 = .ok (.iadd, 1) := by decide +kernel
theorem dX12_oddsNow_124 : decode cX12_oddsNow 124 = .ok (.aload_n 0, 1) := by decide +kernel
theorem dX12_oddsNow_125 : decode cX12_oddsNow 125 = .ok (.getfield 59, 3) := by decide +kernel
theorem dX12_oddsNow_128 : decode cX12_oddsNow 128 = .ok (.iconst 2, 1) := by decide +kernel
theorem dX12_oddsNow_129 : decode cX12_oddsNow 129 = .ok (.iaload, 1) := by decide +kernel
theorem dX12_oddsNow_130 : decode cX12_oddsNow 130 = .ok (.iadd, 1) := by decide +kernel
theorem dX12_oddsNow_131 : decode cX12_oddsNow 131 = .ok (.bipush 10, 2) := by decide +kernel
theorem dX12_oddsNow_133 : decode cX12_oddsNow 133 = .ok (.iload_n 3, 1) := by decide +kernel
theorem dX12_oddsNow_134 : decode cX12_oddsNow 134 = .ok (.isub, 1) := by decide +kernel
theorem dX12_oddsNow_135 : decode cX12_oddsNow 135 = .ok (.imul, 1) := by decide +kernel
theorem dX12_oddsNow_136 : decode cX12_oddsNow 136 = .ok (.iload 8, 2) := by decide +kernel
theorem dX12_oddsNow_138 : decode cX12_oddsNow 138 = .ok (.ifCond .eq 7, 3) := by decide +kernel
theorem dX12_oddsNow_141 : decode cX12_oddsNow 141 = .ok (.iconst 0, 1) := by decide +kernel
theorem dX12_oddsNow_142 : decode cX12_oddsNow 142 = .ok (.goto 11, 3) := by decide +kernel
theorem dX12_oddsNow_145 : decode cX12_oddsNow 145 = .ok (.aload_n 0, 1) := by decide +kernel
theorem dX12_oddsNow_146 : decode cX12_oddsNow 146 = .ok (.getfield 59, 3) := by decide +kernel
theorem dX12_oddsNow_149 : decode cX12_oddsNow 149 = .ok (.iconst 2, 1) := by decide +kernel
theorem dX12_oddsNow_150 : decode cX12_oddsNow 150 = .ok (.iaload, 1) := by decide +kernel
theorem dX12_oddsNow_151 : decode cX12_oddsNow 151 = .ok (.iload_n 3, 1) := by decide +kernel
theorem dX12_oddsNow_152 : decode cX12_oddsNow 152 = .ok (.imul, 1) := by decide +kernel
theorem dX12_oddsNow_153 : decode cX12_oddsNow 153 = .ok (.iadd, 1) := by decide +kernel
theorem dX12_oddsNow_154 : decode cX12_oddsNow 154 = .ok (.iastore, 1) := by decide +kernel
theorem dX12_oddsNow_155 : decode cX12_oddsNow 155 = .ok (.aload_n 0, 1) := by decide +kernel
theorem dX12_oddsNow_156 : decode cX12_oddsNow 156 = .ok (.getfield 62, 3) := by decide +kernel
theorem dX12_oddsNow_159 : decode cX12_oddsNow 159 = .ok (.iconst 1, 1) := by decide +kernel
theorem dX12_oddsNow_160 : decode cX12_oddsNow 160 = .ok (.aload_n 0, 1) := by decide +kernel
theorem dX12_oddsNow_161 : decode cX12_oddsNow 161 = .ok (.getfield 59, 3) := by decide +kernel
theorem dX12_oddsNow_164 : decode cX12_oddsNow 164 = .ok (.iconst 0, 1) := by decide +kernel
theorem dX12_oddsNow_165 : decode cX12_oddsNow 165 = .ok (.iaload, 1) := by decide +kernel
theorem dX12_oddsNow_166 : decode cX12_oddsNow 166 = .ok (.iload_n 3, 1) := by decide +kernel
theorem dX12_oddsNow_167 : decode cX12_oddsNow 167 = .ok (.imul, 1) := by decide +kernel
theorem dX12_oddsNow_168 : decode cX12_oddsNow 168 = .ok (.iastore, 1) := by decide +kernel
theorem dX12_oddsNow_169 : decode cX12_oddsNow 169 = .ok (.aload_n 0, 1) := by decide +kernel
theorem dX12_oddsNow_170 : decode cX12_oddsNow 170 = .ok (.getfield 62, 3) := by decide +kernel
theorem dX12_oddsNow_173 : decode cX12_oddsNow 173 = .ok (.iconst 2, 1) := by decide +kernel
theorem dX12_oddsNow_174 : decode cX12_oddsNow 174 = .ok (.aload_n 0, 1) := by decide +kernel
theorem dX12_oddsNow_175 : decode cX12_oddsNow 175 = .ok (.getfield 59, 3) := by decide +kernel
theorem dX12_oddsNow_178 : decode cX12_oddsNow 178 = .ok (.iconst 1, 1) := by decide +kernel
theorem dX12_oddsNow_179 : decode cX12_oddsNow 179 = .ok (.iaload, 1) := by decide +kernel
theorem dX12_oddsNow_180 : decode cX12_oddsNow 180 = .ok (.iload_n 3, 1) := by decide +kernel
theorem dX12_oddsNow_181 : decode cX12_oddsNow 181 = .ok (.imul, 1) := by decide +kernel
theorem dX12_oddsNow_182 : decode cX12_oddsNow 182 = .ok (.iastore, 1) := by decide +kernel
theorem dX12_oddsNow_183 : decode cX12_oddsNow 183 = .ok (.iconst 0, 1) := by decide +kernel
theorem dX12_oddsNow_184 : decode cX12_oddsNow 184 = .ok (.istore 9, 2) := by decide +kernel
theorem dX12_oddsNow_186 : decode cX12_oddsNow 186 = .ok (.iload 9, 2) := by decide +kernel
theorem dX12_oddsNow_188 : decode cX12_oddsNow 188 = .ok (.iconst 3, 1) := by decide +kernel
theorem dX12_oddsNow_189 : decode cX12_oddsNow 189 = .ok (.if_icmp .ge 23, 3) := by decide +kernel
theorem dX12_oddsNow_192 : decode cX12_oddsNow 192 = .ok (.aload_n 0, 1) := by decide +kernel
theorem dX12_oddsNow_193 : decode cX12_oddsNow 193 = .ok (.getfield 59, 3) := by decide +kernel
theorem dX12_oddsNow_196 : decode cX12_oddsNow 196 = .ok (.iload 9, 2) := by decide +kernel
theorem dX12_oddsNow_198 : decode cX12_oddsNow 198 = .ok (.aload_n 0, 1) := by decide +kernel
theorem dX12_oddsNow_199 : decode cX12_oddsNow 199 = .ok (.getfield 62, 3) := by decide +kernel
theorem dX12_oddsNow_202 : decode cX12_oddsNow 202 = .ok (.iload 9, 2) := by decide +kernel
theorem dX12_oddsNow_204 : decode cX12_oddsNow 204 = .ok (.iaload, 1) := by decide +kernel
theorem dX12_oddsNow_205 : decode cX12_oddsNow 205 = .ok (.iastore, 1) := by decide +kernel
theorem dX12_oddsNow_206 : decode cX12_oddsNow 206 = .ok (.iinc 9 1, 3) := by decide +kernel
theorem dX12_oddsNow_209 : decode cX12_oddsNow 209 = .ok (.goto (-23), 3) := by decide +kernel
theorem dX12_oddsNow_212 : decode cX12_oddsNow 212 = .ok (.iload 6, 2) := by decide +kernel
theorem dX12_oddsNow_214 : decode cX12_oddsNow 214 = .ok (.bipush 10, 2) := by decide +kernel
theorem dX12_oddsNow_216 : decode cX12_oddsNow 216 = .ok (.imul, 1) := by decide +kernel
theorem dX12_oddsNow_217 : decode cX12_oddsNow 217 = .ok (.istore 6, 2) := by decide +kernel
theorem dX12_oddsNow_219 : decode cX12_oddsNow 219 = .ok (.iinc 7 1, 3) := by decide +kernel
theorem dX12_oddsNow_222 : decode cX12_oddsNow 222 = .ok (.goto (-168), 3) := by decide +kernel
theorem dX12_oddsNow_225 : decode cX12_oddsNow 225 = .ok (.aload_n 0, 1) := by decide +kernel
theorem dX12_oddsNow_226 : decode cX12_oddsNow 226 = .ok (.iconst 1, 1) := by decide +kernel
theorem dX12_oddsNow_227 : decode cX12_oddsNow 227 = .ok (.invokevirtual 179, 3) := by decide +kernel
theorem dX12_oddsNow_230 : decode cX12_oddsNow 230 = .ok (.iload 5, 2) := by decide +kernel
theorem dX12_oddsNow_232 : decode cX12_oddsNow 232 = .ok (.iload 6, 2) := by decide +kernel
theorem dX12_oddsNow_234 : decode cX12_oddsNow 234 = .ok (.invokestatic 231, 3) := by decide +kernel
theorem dX12_oddsNow_237 : decode cX12_oddsNow 237 = .ok (.istore 7, 2) := by decide +kernel
theorem dX12_oddsNow_239 : decode cX12_oddsNow 239 = .ok (.iload 4, 2) := by decide +kernel
theorem dX12_oddsNow_241 : decode cX12_oddsNow 241 = .ok (.ifCond .ne 11, 3) := by decide +kernel
theorem dX12_oddsNow_244 : decode cX12_oddsNow 244 = .ok (.iload 5, 2) := by decide +kernel
theorem dX12_oddsNow_246 : decode cX12_oddsNow 246 = .ok (.iload 7, 2) := by decide +kernel
theorem dX12_oddsNow_248 : decode cX12_oddsNow 248 = .ok (.idiv, 1) := by decide +kernel
theorem dX12_oddsNow_249 : decode cX12_oddsNow 249 = .ok (.goto 8, 3) := by decide +kernel
theorem dX12_oddsNow_252 : decode cX12_oddsNow 252 = .ok (.iload 6, 2) := by decide +kernel
theorem dX12_oddsNow_254 : decode cX12_oddsNow 254 = .ok (.iload 7, 2) := by decide +kernel
theorem dX12_oddsNow_256 : decode cX12_oddsNow 256 = .ok (.idiv, 1) := by decide +kernel
theorem dX12_oddsNow_257 : decode cX12_oddsNow 257 = .ok (.ireturn, 1) := by decide +kernel
set_option maxRecDepth 20000 in
theorem ggX12_odds_X12_isPan : GoodIn wsX12_odds wsX12_isPan := goodIn_r _ [5, 6, 7, 8, 4, 9, 38, 39, 40, 41, 42, 43, 44, 45, 46, 47, 48, 49, 50, 51, 52, 53, 54, 55, 56, 57, 58, 59, 60, 61, 62, 63, 64, 65, 66, 67, 68, 69, 70, 71, 72, 73, 74, 75] (by decide +kernel) (by decide +kernel)
set_option maxRecDepth 20000 in
theorem gX12_odds_X12_isPan : GoodIn wsX12_odds (wsV RX12 147 RX12 yX12_isPan wsX12_isPan) := goodIn_app (goodIn_of _ (by decide +kernel)) ggX12_odds_X12_isPan
set_option maxRecDepth 20000 in
theorem ggX12_odds_X12_within : GoodIn wsX12_odds wsX12_within := goodIn_r _ [9] (by decide +kernel) (by decide +kernel)
set_option maxRecDepth 20000 in
theorem gX12_odds_X12_within : GoodIn wsX12_odds (va_wsS RX12 77 yX12_within wsX12_within) := goodIn_app (goodIn_of _ (by decide +kernel)) ggX12_odds_X12_within
set_option maxRecDepth 20000 in
theorem ggX12_odds_X12_oddsNow : GoodIn wsX12_odds wsX12_oddsNow := goodIn_r _ [13, 14, 15, 16, 17, 18, 19, 20, 4, 21, 22, 23, 24, 25, 26, 27, 28, 29, 30, 31, 32, 33, 34, 35, 36, 37, 38, 39, 40, 41, 42, 43, 44, 45, 46, 47, 48, 49, 50, 51, 52, 53, 54, 55, 56, 57, 58, 59, 60, 61, 62, 63, 64, 65, 66, 67, 68, 69, 70, 71, 72, 73, 74, 75] (by decide +kernel) (by decide +kernel)
set_option maxRecDepth 20000 in
theorem gX12_odds_X12_oddsNow : GoodIn wsX12_odds (wsV RX12 234 RX12 yX12_oddsNow wsX12_oddsNow) := goodIn_app (goodIn_of _ (by decide +kernel)) ggX12_odds_X12_oddsNow
theorem dX12_odds_0 : decode cX12_odds 0 = .ok (.aload_n 0, 1) := by decide +kernel
theorem dX12_odds_1 : decode cX12_odds 1 = .ok (.iload_n 1, 1) := by decide +kernel
theorem dX12_odds_2 : decode cX12_odds 2 = .ok (.invokevirtual 147, 3) := by decide +kernel
theorem dX12_odds_5 : decode cX12_odds 5 = .ok (.ifCond .ne 6, 3) := by decide +kernel
theorem dX12_odds_8 : decode cX12_odds 8 = .ok (.bipush (-101), 2) := by decide +kernel
theorem dX12_odds_10 : decode cX12_odds 10 = .ok (.ireturn, 1) := by decide +kernel
theorem dX12_odds_11 : decode cX12_odds 11 = .ok (.iload_n 2, 1) := by decide +kernel
theorem dX12_odds_12 : decode cX12_odds 12 = .ok (.iconst 1, 1) := by decide +kernel
theorem dX12_odds_13 : decode cX12_odds 13 = .ok (.bipush 8, 2) := by decide +kernel
theorem dX12_odds_15 : decode cX12_odds 15 = .ok (.invokestatic 77, 3) := by decide +kernel
theorem dX12_odds_18 : decode cX12_odds 18 = .ok (.ifCond .eq 27, 3) := by decide +kernel
theorem dX12_odds_21 : decode cX12_odds 21 = .ok (.iload_n 3, 1) := by decide +kernel
theorem dX12_odds_22 : decode cX12_odds 22 = .ok (.iconst 0, 1) := by decide +kernel
theorem dX12_odds_23 : decode cX12_odds 23 = .ok (.bipush 10, 2) := by decide +kernel
theorem dX12_odds_25 : decode cX12_odds 25 = .ok (.invokestatic 77, 3) := by decide +kernel
theorem dX12_odds_28 : decode cX12_odds 28 = .ok (.ifCond .eq 17, 3) := by decide +kernel
theorem dX12_odds_31 : decode cX12_odds 31 = .ok (.iload 4, 2) := by decide +kernel
theorem dX12_odds_33 : decode cX12_odds 33 = .ok (.iconst 0, 1) := by decide +kernel
theorem dX12_odds_34 : decode cX12_odds 34 = .ok (.iconst 1, 1) := by decide +kernel
theorem dX12_odds_35 : decode cX12_odds 35 = .ok (.invokestatic 77, 3) := by decide +kernel
theorem dX12_odds_38 : decode cX12_odds 38 = .ok (.ifCond .eq 7, 3) := by decide +kernel
theorem dX12_odds_41 : decode cX12_odds 41 = .ok (.iconst 1, 1) := by decide +kernel
theorem dX12_odds_42 : decode cX12_odds 42 = .ok (.goto 4, 3) := by decide +kernel
theorem dX12_odds_45 : decode cX12_odds 45 = .ok (.iconst 0, 1) := by decide +kernel
theorem dX12_odds_46 : decode cX12_odds 46 = .ok (.istore 5, 2) := by decide +kernel
theorem dX12_odds_48 : decode cX12_odds 48 = .ok (.iload 5, 2) := by decide +kernel
theorem dX12_odds_50 : decode cX12_odds 50 = .ok (.ifCond .eq 15, 3) := by decide +kernel
theorem dX12_odds_53 : decode cX12_odds 53 = .ok (.aload_n 0, 1) := by decide +kernel
theorem dX12_odds_54 : decode cX12_odds 54 = .ok (.iload_n 1, 1) := by decide +kernel
theorem dX12_odds_55 : decode cX12_odds 55 = .ok (.iload_n 2, 1) := by decide +kernel
theorem dX12_odds_56 : decode cX12_odds 56 = .ok (.iload_n 3, 1) := by decide +kernel
theorem dX12_odds_57 : decode cX12_odds 57 = .ok (.iload 4, 2) := by decide +kernel
theorem dX12_odds_59 : decode cX12_odds 59 = .ok (.invokevirtual 234, 3) := by decide +kernel
theorem dX12_odds_62 : decode cX12_odds 62 = .ok (.goto 5, 3) := by decide +kernel
theorem dX12_odds_65 : decode cX12_odds 65 = .ok (.bipush (-102), 2) := by decide +kernel
theorem dX12_odds_67 : decode cX12_odds 67 = .ok (.ireturn, 1) := by decide +kernel
set_option maxRecDepth 20000 in
theorem ggX12_see_X12_isPan : GoodIn wsX12_see wsX12_isPan := goodIn_r _ [9, 10, 11, 12, 8, 13, 14, 15, 16, 17, 18, 19, 20, 21, 22, 23, 24, 25, 26, 27, 28, 29, 30, 31, 32, 33, 34, 35, 36, 37, 38, 39, 40, 41, 42, 43, 44, 45, 46, 47, 48, 49, 50, 51] (by decide +kernel) (by decide +kernel)
set_option maxRecDepth 20000 in
theorem gX12_see_X12_isPan : GoodIn wsX12_see (wsV RX12 147 RX12 yX12_isPan wsX12_isPan) := goodIn_app (goodIn_of _ (by decide +kernel)) ggX12_see_X12_isPan
set_option maxRecDepth 20000 in
theorem ggX12_see_X12_within : GoodIn wsX12_see wsX12_within := goodIn_r _ [13] (by decide +kernel) (by decide +kernel)
set_option maxRecDepth 20000 in
theorem gX12_see_X12_within : GoodIn wsX12_see (va_wsS RX12 77 yX12_within wsX12_within) := goodIn_app (goodIn_of _ (by decide +kernel)) ggX12_see_X12_within
theorem dX12_see_0 : decode cX12_see 0 = .ok (.aload_n 0, 1) := by decide +kernel
theorem dX12_see_1 : decode cX12_see 1 = .ok (.iload_n 1, 1) := by decide +kernel
theorem dX12_see_2 : decode cX12_see 2 = .ok (.invokevirtual 147, 3) := by decide +kernel
theorem dX12_see_5 : decode cX12_see 5 = .ok (.ifCond .ne 6, 3) := by decide +kernel
theorem dX12_see_8 : decode cX12_see 8 = .ok (.bipush (-101), 2) := by decide +kernel
theorem dX12_see_10 : decode cX12_see 10 = .ok (.ireturn, 1) := by decide +kernel
theorem dX12_see_11 : decode cX12_see 11 = .ok (.iload_n 2, 1) := by decide +kernel
theorem dX12_see_12 : decode cX12_see 12 = .ok (.iconst 1, 1) := by decide +kernel
theorem dX12_see_13 : decode cX12_see 13 = .ok (.bipush 12, 2) := by decide +kernel
theorem dX12_see_15 : decode cX12_see 15 = .ok (.invokestatic 77, 3) := by decide +kernel
theorem dX12_see_18 : decode cX12_see 18 = .ok (.ifCond .eq 13, 3) := by decide +kernel
theorem dX12_see_21 : decode cX12_see 21 = .ok (.iload_n 3, 1) := by decide +kernel
theorem dX12_see_22 : decode cX12_see 22 = .ok (.iconst 0, 1) := by decide +kernel
theorem dX12_see_23 : decode cX12_see 23 = .ok (.bipush 40, 2) := by decide +kernel
theorem dX12_see_25 : decode cX12_see 25 = .ok (.invokestatic 77, 3) := by decide +kernel
theorem dX12_see_28 : decode cX12_see 28 = .ok (.ifCond .ne 6, 3) := by decide +kernel
theorem dX12_see_31 : decode cX12_see 31 = .ok (.bipush (-102), 2) := by decide +kernel
theorem dX12_see_33 : decode cX12_see 33 = .ok (.ireturn, 1) := by decide +kernel
theorem dX12_see_34 : decode cX12_see 34 = .ok (.aload_n 0, 1) := by decide +kernel
theorem dX12_see_35 : decode cX12_see 35 = .ok (.getfield 131, 3) := by decide +kernel
theorem dX12_see_38 : decode cX12_see 38 = .ok (.bipush 6, 2) := by decide +kernel
theorem dX12_see_40 : decode cX12_see 40 = .ok (.if_icmp .ne 6, 3) := by decide +kernel
theorem dX12_see_43 : decode cX12_see 43 = .ok (.bipush (-104), 2) := by decide +kernel
theorem dX12_see_45 : decode cX12_see 45 = .ok (.ireturn, 1) := by decide +kernel
theorem dX12_see_46 : decode cX12_see 46 = .ok (.aload_n 0, 1) := by decide +kernel
theorem dX12_see_47 : decode cX12_see 47 = .ok (.getfield 34, 3) := by decide +kernel
theorem dX12_see_50 : decode cX12_see 50 = .ok (.aload_n 0, 1) := by decide +kernel
theorem dX12_see_51 : decode cX12_see 51 = .ok (.getfield 131, 3) := by decide +kernel
theorem dX12_see_54 : decode cX12_see 54 = .ok (.iload_n 1, 1) := by decide +kernel
theorem dX12_see_55 : decode cX12_see 55 = .ok (.iastore, 1) := by decide +kernel
theorem dX12_see_56 : decode cX12_see 56 = .ok (.aload_n 0, 1) := by decide +kernel
theorem dX12_see_57 : decode cX12_see 57 = .ok (.getfield 37, 3) := by decide +kernel
theorem dX12_see_60 : decode cX12_see 60 = .ok (.aload_n 0, 1) := by decide +kernel
theorem dX12_see_61 : decode cX12_see 61 = .ok (.getfield 131, 3) := by decide +kernel
theorem dX12_see_64 : decode cX12_see 64 = .ok (.iload_n 2, 1) := by decide +kernel
theorem dX12_see_65 : decode cX12_see 65 = .ok (.iastore, 1) := by decide +kernel
theorem dX12_see_66 : decode cX12_see 66 = .ok (.aload_n 0, 1) := by decide +kernel
theorem dX12_see_67 : decode cX12_see 67 = .ok (.getfield 40, 3) := by decide +kernel
theorem dX12_see_70 : decode cX12_see 70 = .ok (.aload_n 0, 1) := by decide +kernel
theorem dX12_see_71 : decode cX12_see 71 = .ok (.getfield 131, 3) := by decide +kernel
theorem dX12_see_74 : decode cX12_see 74 = .ok (.iload_n 3, 1) := by decide +kernel
theorem dX12_see_75 : decode cX12_see 75 = .ok (.iastore, 1) := by decide +kernel
theorem dX12_see_76 : decode cX12_see 76 = .ok (.aload_n 0, 1) := by decide +kernel
theorem dX12_see_77 : decode cX12_see 77 = .ok (.dup, 1) := by decide +kernel
theorem dX12_see_78 : decode cX12_see 78 = .ok (.getfield 131, 3) := by decide +kernel
theorem dX12_see_81 : decode cX12_see 81 = .ok (.iconst 1, 1) := by decide +kernel
theorem dX12_see_82 : decode cX12_see 82 = .ok (.iadd, 1) := by decide +kernel
theorem dX12_see_83 : decode cX12_see 83 = .ok (.putfield 131, 3) := by decide +kernel
theorem dX12_see_86 : decode cX12_see 86 = .ok (.aload_n 0, 1) := by decide +kernel
theorem dX12_see_87 : decode cX12_see 87 = .ok (.getfield 131, 3) := by decide +kernel
theorem dX12_see_90 : decode cX12_see 90 = .ok (.ireturn, 1) := by decide +kernel
theorem dX12_forget_0 : decode cX12_forget 0 = .ok (.aload_n 0, 1) := by decide +kernel
theorem dX12_forget_1 : decode cX12_forget 1 = .ok (.getfield 131, 3) := by decide +kernel
theorem dX12_forget_4 : decode cX12_forget 4 = .ok (.istore_n 1, 1) := by decide +kernel
theorem dX12_forget_5 : decode cX12_forget 5 = .ok (.aload_n 0, 1) := by decide +kernel
theorem dX12_forget_6 : decode cX12_forget 6 = .ok (.iconst 0, 1) := by decide +kernel
theorem dX12_forget_7 : decode cX12_forget 7 = .ok (.putfield 131, 3) := by decide +kernel
theorem dX12_forget_10 : decode cX12_forget 10 = .ok (.iload_n 1, 1) := by decide +kernel
theorem dX12_forget_11 : decode cX12_forget 11 = .ok (.ireturn, 1) := by decide +kernel
theorem dX12_risenBy_0 : decode cX12_risenBy 0 = .ok (.iload_n 3, 1) := by decide +kernel
theorem dX12_risenBy_1 : decode cX12_risenBy 1 = .ok (.aload_n 0, 1) := by decide +kernel
theorem dX12_risenBy_2 : decode cX12_risenBy 2 = .ok (.getfield 7, 3) := by decide +kernel
theorem dX12_risenBy_5 : decode cX12_risenBy 5 = .ok (.iload_n 1, 1) := by decide +kernel
theorem dX12_risenBy_6 : decode cX12_risenBy 6 = .ok (.iaload, 1) := by decide +kernel
theorem dX12_risenBy_7 : decode cX12_risenBy 7 = .ok (.iconst 1, 1) := by decide +kernel
theorem dX12_risenBy_8 : decode cX12_risenBy 8 = .ok (.iadd, 1) := by decide +kernel
theorem dX12_risenBy_9 : decode cX12_risenBy 9 = .ok (.imul, 1) := by decide +kernel
theorem dX12_risenBy_10 : decode cX12_risenBy 10 = .ok (.istore 4, 2) := by decide +kernel
theorem dX12_risenBy_12 : decode cX12_risenBy 12 = .ok (.aload_n 0, 1) := by decide +kernel
theorem dX12_risenBy_13 : decode cX12_risenBy 13 = .ok (.getfield 16, 3) := by decide +kernel
theorem dX12_risenBy_16 : decode cX12_risenBy 16 = .ok (.iload_n 1, 1) := by decide +kernel
theorem dX12_risenBy_17 : decode cX12_risenBy 17 = .ok (.iaload, 1) := by decide +kernel
theorem dX12_risenBy_18 : decode cX12_risenBy 18 = .ok (.aload_n 0, 1) := by decide +kernel
theorem dX12_risenBy_19 : decode cX12_risenBy 19 = .ok (.getfield 19, 3) := by decide +kernel
theorem dX12_risenBy_22 : decode cX12_risenBy 22 = .ok (.iload_n 1, 1) := by decide +kernel
theorem dX12_risenBy_23 : decode cX12_risenBy 23 = .ok (.iaload, 1) := by decide +kernel
theorem dX12_risenBy_24 : decode cX12_risenBy 24 = .ok (.iadd, 1) := by decide +kernel
theorem dX12_risenBy_25 : decode cX12_risenBy 25 = .ok (.iload_n 2, 1) := by decide +kernel
theorem dX12_risenBy_26 : decode cX12_risenBy 26 = .ok (.iload 4, 2) := by decide +kernel
theorem dX12_risenBy_28 : decode cX12_risenBy 28 = .ok (.if_icmp .ge 7, 3) := by decide +kernel
theorem dX12_risenBy_31 : decode cX12_risenBy 31 = .ok (.iload_n 2, 1) := by decide +kernel
theorem dX12_risenBy_32 : decode cX12_risenBy 32 = .ok (.goto 5, 3) := by decide +kernel
theorem dX12_risenBy_35 : decode cX12_risenBy 35 = .ok (.iload 4, 2) := by decide +kernel
theorem dX12_risenBy_37 : decode cX12_risenBy 37 = .ok (.iadd, 1) := by decide +kernel
theorem dX12_risenBy_38 : decode cX12_risenBy 38 = .ok (.ireturn, 1) := by decide +kernel
set_option maxRecDepth 20000 in
theorem ggX12_fatsOf_X12_risenBy : GoodIn wsX12_fatsOf wsX12_risenBy := goodIn_r _ [9, 10, 11, 12, 13, 14, 15, 16, 17, 18, 19, 20, 21, 22, 23, 24, 25, 26, 27, 28, 29, 30, 31, 32, 33, 34, 35, 36, 37, 38, 39, 40, 41, 42, 43, 44, 45, 46, 47, 48, 49, 50] (by decide +kernel) (by decide +kernel)
set_option maxRecDepth 20000 in
theorem gX12_fatsOf_X12_risenBy : GoodIn wsX12_fatsOf (wsV RX12 238 RX12 yX12_risenBy wsX12_risenBy) := goodIn_app (goodIn_of _ (by decide +kernel)) ggX12_fatsOf_X12_risenBy
theorem dX12_fatsOf_0 : decode cX12_fatsOf 0 = .ok (.iconst 0, 1) := by decide +kernel
theorem dX12_fatsOf_1 : decode cX12_fatsOf 1 = .ok (.istore_n 2, 1) := by decide +kernel
theorem dX12_fatsOf_2 : decode cX12_fatsOf 2 = .ok (.iconst 0, 1) := by decide +kernel
theorem dX12_fatsOf_3 : decode cX12_fatsOf 3 = .ok (.istore_n 3, 1) := by decide +kernel
theorem dX12_fatsOf_4 : decode cX12_fatsOf 4 = .ok (.iload_n 3, 1) := by decide +kernel
theorem dX12_fatsOf_5 : decode cX12_fatsOf 5 = .ok (.bipush 15, 2) := by decide +kernel
theorem dX12_fatsOf_7 : decode cX12_fatsOf 7 = .ok (.if_icmp .gt 91, 3) := by decide +kernel
theorem dX12_fatsOf_10 : decode cX12_fatsOf 10 = .ok (.iconst 1, 1) := by decide +kernel
theorem dX12_fatsOf_11 : decode cX12_fatsOf 11 = .ok (.istore 4, 2) := by decide +kernel
theorem dX12_fatsOf_13 : decode cX12_fatsOf 13 = .ok (.iconst 0, 1) := by decide +kernel
theorem dX12_fatsOf_14 : decode cX12_fatsOf 14 = .ok (.istore 5, 2) := by decide +kernel
theorem dX12_fatsOf_16 : decode cX12_fatsOf 16 = .ok (.iload 5, 2) := by decide +kernel
theorem dX12_fatsOf_18 : decode cX12_fatsOf 18 = .ok (.aload_n 0, 1) := by decide +kernel
theorem dX12_fatsOf_19 : decode cX12_fatsOf 19 = .ok (.getfield 131, 3) := by decide +kernel
theorem dX12_fatsOf_22 : decode cX12_fatsOf 22 = .ok (.if_icmp .ge 55, 3) := by decide +kernel
theorem dX12_fatsOf_25 : decode cX12_fatsOf 25 = .ok (.iload 4, 2) := by decide +kernel
theorem dX12_fatsOf_27 : decode cX12_fatsOf 27 = .ok (.ifCond .eq 41, 3) := by decide +kernel
theorem dX12_fatsOf_30 : decode cX12_fatsOf 30 = .ok (.aload_n 0, 1) := by decide +kernel
theorem dX12_fatsOf_31 : decode cX12_fatsOf 31 = .ok (.getfield 34, 3) := by decide +kernel
theorem dX12_fatsOf_34 : decode cX12_fatsOf 34 = .ok (.iload 5, 2) := by decide +kernel
theorem dX12_fatsOf_36 : decode cX12_fatsOf 36 = .ok (.iaload, 1) := by decide +kernel
theorem dX12_fatsOf_37 : decode cX12_fatsOf 37 = .ok (.iload_n 1, 1) := by decide +kernel
theorem dX12_fatsOf_38 : decode cX12_fatsOf 38 = .ok (.if_icmp .ne 26, 3) := by decide +kernel
theorem dX12_fatsOf_41 : decode cX12_fatsOf 41 = .ok (.aload_n 0, 1) := by decide +kernel
theorem dX12_fatsOf_42 : decode cX12_fatsOf 42 = .ok (.iload_n 1, 1) := by decide +kernel
theorem dX12_fatsOf_43 : decode cX12_fatsOf 43 = .ok (.iload_n 3, 1) := by decide +kernel
theorem dX12_fatsOf_44 : decode cX12_fatsOf 44 = .ok (.aload_n 0, 1) := by decide +kernel
theorem dX12_fatsOf_45 : decode cX12_fatsOf 45 = .ok (.getfield 37, 3) := by decide +kernel
theorem dX12_fatsOf_48 : decode cX12_fatsOf 48 = .ok (.iload 5, 2) := by decide +kernel
theorem dX12_fatsOf_50 : decode cX12_fatsOf 50 = .ok (.iaload, 1) := by decide +kernel
theorem dX12_fatsOf_51 : decode cX12_fatsOf 51 = .ok (.invokevirtual 238, 3) := by decide +kernel
theorem dX12_fatsOf_54 : decode cX12_fatsOf 54 = .ok (.aload_n 0, 1) := by decide +kernel
theorem dX12_fatsOf_55 : decode cX12_fatsOf 55 = .ok (.getfield 40, 3) := by decide +kernel
theorem dX12_fatsOf_58 : decode cX12_fatsOf 58 = .ok (.iload 5, 2) := by decide +kernel
theorem dX12_fatsOf_60 : decode cX12_fatsOf 60 = .ok (.iaload, 1) := by decide +kernel
theorem dX12_fatsOf_61 : decode cX12_fatsOf 61 = .ok (.if_icmp .ne 7, 3) := by decide +kernel
theorem dX12_fatsOf_64 : decode cX12_fatsOf 64 = .ok (.iconst 1, 1) := by decide +kernel
theorem dX12_fatsOf_65 : decode cX12_fatsOf 65 = .ok (.goto 4, 3) := by decide +kernel
theorem dX12_fatsOf_68 : decode cX12_fatsOf 68 = .ok (.iconst 0, 1) := by decide +kernel
theorem dX12_fatsOf_69 : decode cX12_fatsOf 69 = .ok (.istore 4, 2) := by decide +kernel
theorem dX12_fatsOf_71 : decode cX12_fatsOf 71 = .ok (.iinc 5 1, 3) := by decide +kernel
theorem dX12_fatsOf_74 : decode cX12_fatsOf 74 = .ok (.goto (-58), 3) := by decide +kernel
theorem dX12_fatsOf_77 : decode cX12_fatsOf 77 = .ok (.iload_n 2, 1) := by decide +kernel
theorem dX12_fatsOf_78 : decode cX12_fatsOf 78 = .ok (.iload 4, 2) := by decide +kernel
theorem dX12_fatsOf_80 : decode cX12_fatsOf 80 = .ok (.ifCond .eq 9, 3) := by decide +kernel
theorem dX12_fatsOf_83 : decode cX12_fatsOf 83 = .ok (.iconst 1, 1) := by decide +kernel
theorem dX12_fatsOf_84 : decode cX12_fatsOf 84 = .ok (.iload_n 3, 1) := by decide +kernel
theorem dX12_fatsOf_85 : decode cX12_fatsOf 85 = .ok (.ishl, 1) := by decide +kernel
theorem dX12_fatsOf_86 : decode cX12_fatsOf 86 = .ok (.goto 4, 3) := by decide +kernel
theorem dX12_fatsOf_89 : decode cX12_fatsOf 89 = .ok (.iconst 0, 1) := by decide +kernel
theorem dX12_fatsOf_90 : decode cX12_fatsOf 90 = .ok (.ior, 1) := by decide +kernel
theorem dX12_fatsOf_91 : decode cX12_fatsOf 91 = .ok (.istore_n 2, 1) := by decide +kernel
theorem dX12_fatsOf_92 : decode cX12_fatsOf 92 = .ok (.iinc 3 1, 3) := by decide +kernel
theorem dX12_fatsOf_95 : decode cX12_fatsOf 95 = .ok (.goto (-91), 3) := by decide +kernel
theorem dX12_fatsOf_98 : decode cX12_fatsOf 98 = .ok (.iload_n 2, 1) := by decide +kernel
theorem dX12_fatsOf_99 : decode cX12_fatsOf 99 = .ok (.ireturn, 1) := by decide +kernel
set_option maxRecDepth 20000 in
theorem ggX12_worstBy_X12_isIn : GoodIn wsX12_worstBy wsX12_isIn := goodIn_r _ [4] (by decide +kernel) (by decide +kernel)
set_option maxRecDepth 20000 in
theorem gX12_worstBy_X12_isIn : GoodIn wsX12_worstBy (va_wsS RX12 241 yX12_isIn wsX12_isIn) := goodIn_app (goodIn_of _ (by decide +kernel)) ggX12_worstBy_X12_isIn
set_option maxRecDepth 20000 in
theorem ggX12_worstBy_X12_risenBy : GoodIn wsX12_worstBy wsX12_risenBy := goodIn_r _ [8, 9, 10, 11, 12, 13, 14, 15, 16, 17, 18, 19, 20, 21, 22, 23, 24, 25, 26, 27, 28, 29, 30, 31, 32, 33, 34, 35, 36, 37, 38, 39, 40, 41, 42, 43, 44, 45, 46, 47, 48, 49] (by decide +kernel) (by decide +kernel)
set_option maxRecDepth 20000 in
theorem gX12_worstBy_X12_risenBy : GoodIn wsX12_worstBy (wsV RX12 238 RX12 yX12_risenBy wsX12_risenBy) := goodIn_app (goodIn_of _ (by decide +kernel)) ggX12_worstBy_X12_risenBy
theorem dX12_worstBy_0 : decode cX12_worstBy 0 = .ok (.iconst 0, 1) := by decide +kernel
theorem dX12_worstBy_1 : decode cX12_worstBy 1 = .ok (.istore 4, 2) := by decide +kernel
theorem dX12_worstBy_3 : decode cX12_worstBy 3 = .ok (.iconst 0, 1) := by decide +kernel
theorem dX12_worstBy_4 : decode cX12_worstBy 4 = .ok (.istore 5, 2) := by decide +kernel
theorem dX12_worstBy_6 : decode cX12_worstBy 6 = .ok (.iload 5, 2) := by decide +kernel
theorem dX12_worstBy_8 : decode cX12_worstBy 8 = .ok (.bipush 15, 2) := by decide +kernel
theorem dX12_worstBy_10 : decode cX12_worstBy 10 = .ok (.if_icmp .gt 91, 3) := by decide +kernel
theorem dX12_worstBy_13 : decode cX12_worstBy 13 = .ok (.iconst 0, 1) := by decide +kernel
theorem dX12_worstBy_14 : decode cX12_worstBy 14 = .ok (.istore 6, 2) := by decide +kernel
theorem dX12_worstBy_16 : decode cX12_worstBy 16 = .ok (.iconst 0, 1) := by decide +kernel
theorem dX12_worstBy_17 : decode cX12_worstBy 17 = .ok (.istore 7, 2) := by decide +kernel
theorem dX12_worstBy_19 : decode cX12_worstBy 19 = .ok (.iload 7, 2) := by decide +kernel
theorem dX12_worstBy_21 : decode cX12_worstBy 21 = .ok (.bipush 15, 2) := by decide +kernel
theorem dX12_worstBy_23 : decode cX12_worstBy 23 = .ok (.if_icmp .gt 56, 3) := by decide +kernel
theorem dX12_worstBy_26 : decode cX12_worstBy 26 = .ok (.iload 6, 2) := by decide +kernel
theorem dX12_worstBy_28 : decode cX12_worstBy 28 = .ok (.iload_n 2, 1) := by decide +kernel
theorem dX12_worstBy_29 : decode cX12_worstBy 29 = .ok (.iload 5, 2) := by decide +kernel
theorem dX12_worstBy_31 : decode cX12_worstBy 31 = .ok (.invokestatic 241, 3) := by decide +kernel
theorem dX12_worstBy_34 : decode cX12_worstBy 34 = .ok (.ifCond .eq 35, 3) := by decide +kernel
theorem dX12_worstBy_37 : decode cX12_worstBy 37 = .ok (.iload_n 2, 1) := by decide +kernel
theorem dX12_worstBy_38 : decode cX12_worstBy 38 = .ok (.iload 7, 2) := by decide +kernel
theorem dX12_worstBy_40 : decode cX12_worstBy 40 = .ok (.invokestatic 241, 3) := by decide +kernel
theorem dX12_worstBy_43 : decode cX12_worstBy 43 = .ok (.ifCond .eq 26, 3) := by decide +kernel
theorem dX12_worstBy_46 : decode cX12_worstBy 46 = .ok (.aload_n 0, 1) := by decide +kernel
theorem dX12_worstBy_47 : decode cX12_worstBy 47 = .ok (.iload_n 1, 1) := by decide +kernel
theorem dX12_worstBy_48 : decode cX12_worstBy 48 = .ok (.iload 5, 2) := by decide +kernel
theorem dX12_worstBy_50 : decode cX12_worstBy 50 = .ok (.iload_n 3, 1) := by decide +kernel
theorem dX12_worstBy_51 : decode cX12_worstBy 51 = .ok (.invokevirtual 238, 3) := by decide +kernel
theorem dX12_worstBy_54 : decode cX12_worstBy 54 = .ok (.aload_n 0, 1) := by decide +kernel
theorem dX12_worstBy_55 : decode cX12_worstBy 55 = .ok (.iload_n 1, 1) := by decide +kernel
theorem dX12_worstBy_56 : decode cX12_worstBy 56 = .ok (.iload 7, 2) := by decide +kernel
theorem dX12_worstBy_58 : decode cX12_worstBy 58 = .ok (.iload_n 3, 1) := by decide +kernel
theorem dX12_worstBy_59 : decode cX12_worstBy 59 = .ok (.invokevirtual 238, 3) := by decide +kernel
theorem dX12_worstBy_62 : decode cX12_worstBy 62 = .ok (.if_icmp .ne 7, 3) := by decide +kernel
theorem dX12_worstBy_65 : decode cX12_worstBy 65 = .ok (.iconst 1, 1) := by decide +kernel
theorem dX12_worstBy_66 : decode cX12_worstBy 66 = .ok (.goto 4, 3) := by decide +kernel
theorem dX12_worstBy_69 : decode cX12_worstBy 69 = .ok (.iconst 0, 1) := by decide +kernel
theorem dX12_worstBy_70 : decode cX12_worstBy 70 = .ok (.iadd, 1) := by decide +kernel
theorem dX12_worstBy_71 : decode cX12_worstBy 71 = .ok (.istore 6, 2) := by decide +kernel
theorem dX12_worstBy_73 : decode cX12_worstBy 73 = .ok (.iinc 7 1, 3) := by decide +kernel
theorem dX12_worstBy_76 : decode cX12_worstBy 76 = .ok (.goto (-57), 3) := by decide +kernel
theorem dX12_worstBy_79 : decode cX12_worstBy 79 = .ok (.iload 6, 2) := by decide +kernel
theorem dX12_worstBy_81 : decode cX12_worstBy 81 = .ok (.iload 4, 2) := by decide +kernel
theorem dX12_worstBy_83 : decode cX12_worstBy 83 = .ok (.if_icmp .le 8, 3) := by decide +kernel
theorem dX12_worstBy_86 : decode cX12_worstBy 86 = .ok (.iload 6, 2) := by decide +kernel
theorem dX12_worstBy_88 : decode cX12_worstBy 88 = .ok (.goto 5, 3) := by decide +kernel
theorem dX12_worstBy_91 : decode cX12_worstBy 91 = .ok (.iload 4, 2) := by decide +kernel
theorem dX12_worstBy_93 : decode cX12_worstBy 93 = .ok (.istore 4, 2) := by decide +kernel
theorem dX12_worstBy_95 : decode cX12_worstBy 95 = .ok (.iinc 5 1, 3) := by decide +kernel
theorem dX12_worstBy_98 : decode cX12_worstBy 98 = .ok (.goto (-92), 3) := by decide +kernel
theorem dX12_worstBy_101 : decode cX12_worstBy 101 = .ok (.iload 4, 2) := by decide +kernel
theorem dX12_worstBy_103 : decode cX12_worstBy 103 = .ok (.ireturn, 1) := by decide +kernel
set_option maxRecDepth 20000 in
theorem ggX12_lookFor_X12_fatsOf : GoodIn wsX12_lookFor wsX12_fatsOf := goodIn_r _ [6, 7, 8, 9, 10, 11, 12, 13, 5, 14, 15, 16, 17, 25, 26, 27, 28, 29, 30, 31, 32, 33, 34, 35, 36, 37, 38, 39, 40, 41, 42, 43, 44, 45, 46, 47, 48, 49, 50, 51, 52, 53, 54, 55, 56, 57, 58, 59, 60, 61, 62] (by decide +kernel) (by decide +kernel)
set_option maxRecDepth 20000 in
theorem gX12_lookFor_X12_fatsOf : GoodIn wsX12_lookFor (wsV RX12 141 RX12 yX12_fatsOf wsX12_fatsOf) := goodIn_app (goodIn_of _ (by decide +kernel)) ggX12_lookFor_X12_fatsOf
set_option maxRecDepth 20000 in
theorem ggX12_lookFor_X12_worstBy : GoodIn wsX12_lookFor wsX12_worstBy := goodIn_r _ [21, 22, 23, 5, 24, 11, 12, 13, 14, 15, 16, 17, 25, 26, 27, 28, 29, 30, 31, 32, 33, 34, 35, 36, 37, 38, 39, 40, 41, 42, 43, 44, 45, 46, 47, 48, 49, 50, 51, 52, 53, 54, 55, 56, 57, 58, 59, 60, 61, 62] (by decide +kernel) (by decide +kernel)
set_option maxRecDepth 20000 in
theorem gX12_lookFor_X12_worstBy : GoodIn wsX12_lookFor (wsV RX12 245 RX12 yX12_worstBy wsX12_worstBy) := goodIn_app (goodIn_of _ (by decide +kernel)) ggX12_lookFor_X12_worstBy
theorem dX12_lookFor_0 : decode cX12_lookFor 0 = .ok (.aload_n 0, 1) := by decide +kernel
theorem dX12_lookFor_1 : decode cX12_lookFor 1 = .ok (.iload_n 1, 1) := by decide +kernel
theorem dX12_lookFor_2 : decode cX12_lookFor 2 = .ok (.invokevirtual 141, 3) := by decide +kernel
theorem dX12_lookFor_5 : decode cX12_lookFor 5 = .ok (.istore_n 2, 1) := by decide +kernel
theorem dX12_lookFor_6 : decode cX12_lookFor 6 = .ok (.iconst (-1), 1) := by decide +kernel
theorem dX12_lookFor_7 : decode cX12_lookFor 7 = .ok (.istore_n 3, 1) := by decide +kernel
theorem dX12_lookFor_8 : decode cX12_lookFor 8 = .ok (.ldc 209, 2) := by decide +kernel
theorem dX12_lookFor_10 : decode cX12_lookFor 10 = .ok (.istore 4, 2) := by decide +kernel
theorem dX12_lookFor_12 : decode cX12_lookFor 12 = .ok (.iconst 1, 1) := by decide +kernel
theorem dX12_lookFor_13 : decode cX12_lookFor 13 = .ok (.istore 5, 2) := by decide +kernel
theorem dX12_lookFor_15 : decode cX12_lookFor 15 = .ok (.iload 5, 2) := by decide +kernel
theorem dX12_lookFor_17 : decode cX12_lookFor 17 = .ok (.bipush 12, 2) := by decide +kernel
theorem dX12_lookFor_19 : decode cX12_lookFor 19 = .ok (.if_icmp .gt 53, 3) := by decide +kernel
theorem dX12_lookFor_22 : decode cX12_lookFor 22 = .ok (.iload_n 2, 1) := by decide +kernel
theorem dX12_lookFor_23 : decode cX12_lookFor 23 = .ok (.ifCond .eq 49, 3) := by decide +kernel
theorem dX12_lookFor_26 : decode cX12_lookFor 26 = .ok (.aload_n 0, 1) := by decide +kernel
theorem dX12_lookFor_27 : decode cX12_lookFor 27 = .ok (.iload_n 1, 1) := by decide +kernel
theorem dX12_lookFor_28 : decode cX12_lookFor 28 = .ok (.iload_n 2, 1) := by decide +kernel
theorem dX12_lookFor_29 : decode cX12_lookFor 29 = .ok (.iload 5, 2) := by decide +kernel
theorem dX12_lookFor_31 : decode cX12_lookFor 31 = .ok (.invokevirtual 245, 3) := by decide +kernel
theorem dX12_lookFor_34 : decode cX12_lookFor 34 = .ok (.istore 6, 2) := by decide +kernel
theorem dX12_lookFor_36 : decode cX12_lookFor 36 = .ok (.iload 6, 2) := by decide +kernel
theorem dX12_lookFor_38 : decode cX12_lookFor 38 = .ok (.iload 4, 2) := by decide +kernel
theorem dX12_lookFor_40 : decode cX12_lookFor 40 = .ok (.if_icmp .ge 8, 3) := by decide +kernel
theorem dX12_lookFor_43 : decode cX12_lookFor 43 = .ok (.iload 5, 2) := by decide +kernel
theorem dX12_lookFor_45 : decode cX12_lookFor 45 = .ok (.goto 4, 3) := by decide +kernel
theorem dX12_lookFor_48 : decode cX12_lookFor 48 = .ok (.iload_n 3, 1) := by decide +kernel
theorem dX12_lookFor_49 : decode cX12_lookFor 49 = .ok (.istore_n 3, 1) := by decide +kernel
theorem dX12_lookFor_50 : decode cX12_lookFor 50 = .ok (.iload 6, 2) := by decide +kernel
theorem dX12_lookFor_52 : decode cX12_lookFor 52 = .ok (.iload 4, 2) := by decide +kernel
theorem dX12_lookFor_54 : decode cX12_lookFor 54 = .ok (.if_icmp .ge 8, 3) := by decide +kernel
theorem dX12_lookFor_57 : decode cX12_lookFor 57 = .ok (.iload 6, 2) := by decide +kernel
theorem dX12_lookFor_59 : decode cX12_lookFor 59 = .ok (.goto 5, 3) := by decide +kernel
theorem dX12_lookFor_62 : decode cX12_lookFor 62 = .ok (.iload 4, 2) := by decide +kernel
theorem dX12_lookFor_64 : decode cX12_lookFor 64 = .ok (.istore 4, 2) := by decide +kernel
theorem dX12_lookFor_66 : decode cX12_lookFor 66 = .ok (.iinc 5 1, 3) := by decide +kernel
theorem dX12_lookFor_69 : decode cX12_lookFor 69 = .ok (.goto (-54), 3) := by decide +kernel
theorem dX12_lookFor_72 : decode cX12_lookFor 72 = .ok (.iload_n 3, 1) := by decide +kernel
theorem dX12_lookFor_73 : decode cX12_lookFor 73 = .ok (.ireturn, 1) := by decide +kernel
theorem dX12_draw_0 : decode cX12_draw 0 = .ok (.aload_n 0, 1) := by decide +kernel
theorem dX12_draw_1 : decode cX12_draw 1 = .ok (.ldc2_w 248, 3) := by decide +kernel
theorem dX12_draw_4 : decode cX12_draw 4 = .ok (.aload_n 0, 1) := by decide +kernel
theorem dX12_draw_5 : decode cX12_draw 5 = .ok (.getfield 250, 3) := by decide +kernel
theorem dX12_draw_8 : decode cX12_draw 8 = .ok (.lmul, 1) := by decide +kernel
theorem dX12_draw_9 : decode cX12_draw 9 = .ok (.ldc2_w 254, 3) := by decide +kernel
theorem dX12_draw_12 : decode cX12_draw 12 = .ok (.ladd, 1) := by decide +kernel
theorem dX12_draw_13 : decode cX12_draw 13 = .ok (.ldc2_w 256, 3) := by decide +kernel
theorem dX12_draw_16 : decode cX12_draw 16 = .ok (.land, 1) := by decide +kernel
theorem dX12_draw_17 : decode cX12_draw 17 = .ok (.putfield 250, 3) := by decide +kernel
theorem dX12_draw_20 : decode cX12_draw 20 = .ok (.aload_n 0, 1) := by decide +kernel
theorem dX12_draw_21 : decode cX12_draw 21 = .ok (.getfield 250, 3) := by decide +kernel
theorem dX12_draw_24 : decode cX12_draw 24 = .ok (.ldc2_w 258, 3) := by decide +kernel
theorem dX12_draw_27 : decode cX12_draw 27 = .ok (.ldiv, 1) := by decide +kernel
theorem dX12_draw_28 : decode cX12_draw 28 = .ok (.iload_n 1, 1) := by decide +kernel
theorem dX12_draw_29 : decode cX12_draw 29 = .ok (.i2l, 1) := by decide +kernel
theorem dX12_draw_30 : decode cX12_draw 30 = .ok (.lrem, 1) := by decide +kernel
theorem dX12_draw_31 : decode cX12_draw 31 = .ok (.l2i, 1) := by decide +kernel
theorem dX12_draw_32 : decode cX12_draw 32 = .ok (.ireturn, 1) := by decide +kernel
set_option maxRecDepth 20000 in
theorem ggX12_nightsNow_X12_save : GoodIn wsX12_nightsNow wsX12_save := goodIn_r _ [8, 9, 10, 11, 12, 13, 14, 53, 54, 55, 56, 57, 58, 59, 60, 61, 62, 63, 64, 65, 66, 67, 68, 69, 70, 71, 72, 73, 74, 75, 76, 77, 78, 79, 80, 81, 82, 83, 84, 85, 86, 87, 88, 89, 90] (by decide +kernel) (by decide +kernel)
set_option maxRecDepth 20000 in
theorem gX12_nightsNow_X12_save : GoodIn wsX12_nightsNow (wsV RX12 176 RX12 yX12_save wsX12_save) := goodIn_app (goodIn_of _ (by decide +kernel)) ggX12_nightsNow_X12_save
set_option maxRecDepth 20000 in
theorem ggX12_nightsNow_X12_draw : GoodIn wsX12_nightsNow wsX12_draw := goodIn_r _ [18, 19, 1, 20, 21, 22, 53, 54, 55, 56, 57, 58, 59, 60, 61, 62, 63, 64, 65, 66, 67, 68, 69, 70, 71, 72, 73, 74, 75, 76, 77, 78, 79, 80, 81, 82, 83, 84, 85, 86, 87, 88, 89, 90] (by decide +kernel) (by decide +kernel)
set_option maxRecDepth 20000 in
theorem gX12_nightsNow_X12_draw : GoodIn wsX12_nightsNow (wsV RX12 260 RX12 yX12_draw wsX12_draw) := goodIn_app (goodIn_of _ (by decide +kernel)) ggX12_nightsNow_X12_draw
set_option maxRecDepth 20000 in
theorem ggX12_nightsNow_X12_goByAll : GoodIn wsX12_nightsNow wsX12_goByAll := goodIn_r _ [26, 3, 27, 28, 29, 7, 30, 14, 11, 12, 31, 32, 33, 34, 10, 35, 53, 54, 55, 56, 57, 58, 59, 60, 61, 62, 63, 64, 65, 66, 67, 68, 69, 70, 71, 72, 73, 74, 75, 76, 77, 78, 79, 80, 81, 82, 83, 84, 85, 86, 87, 88, 89, 90] (by decide +kernel) (by decide +kernel)
set_option maxRecDepth 20000 in
theorem gX12_nightsNow_X12_goByAll : GoodIn wsX12_nightsNow (wsV RX12 169 RX12 yX12_goByAll wsX12_goByAll) := goodIn_app (goodIn_of _ (by decide +kernel)) ggX12_nightsNow_X12_goByAll
set_option maxRecDepth 20000 in
theorem ggX12_nightsNow_X12_topOf : GoodIn wsX12_nightsNow wsX12_topOf := goodIn_r _ [39, 12, 11, 13, 53, 54, 55, 56, 57, 58, 59, 60, 61, 62, 63, 64, 65, 66, 67, 68, 69, 70, 71, 72, 73, 74, 75, 76, 77, 78, 79, 80, 81, 82, 83, 84, 85, 86, 87, 88, 89, 90] (by decide +kernel) (by decide +kernel)
set_option maxRecDepth 20000 in
theorem gX12_nightsNow_X12_topOf : GoodIn wsX12_nightsNow (wsV RX12 138 RX12 yX12_topOf wsX12_topOf) := goodIn_app (goodIn_of _ (by decide +kernel)) ggX12_nightsNow_X12_topOf
set_option maxRecDepth 20000 in
theorem ggX12_nightsNow_X12_take : GoodIn wsX12_nightsNow wsX12_take := goodIn_r _ [43, 12, 11, 13, 14, 53, 54, 55, 56, 57, 58, 59, 60, 61, 62, 63, 64, 65, 66, 67, 68, 69, 70, 71, 72, 73, 74, 75, 76, 77, 78, 79, 80, 81, 82, 83, 84, 85, 86, 87, 88, 89, 90] (by decide +kernel) (by decide +kernel)
set_option maxRecDepth 20000 in
theorem gX12_nightsNow_X12_take : GoodIn wsX12_nightsNow (wsV RX12 172 RX12 yX12_take wsX12_take) := goodIn_app (goodIn_of _ (by decide +kernel)) ggX12_nightsNow_X12_take
set_option maxRecDepth 20000 in
theorem ggX12_nightsNow_X12_worthOf : GoodIn wsX12_nightsNow wsX12_worthOf := goodIn_r _ [47, 48, 53, 54, 55, 56, 57, 58, 59, 60, 61, 62, 63, 64, 65, 66, 67, 68, 69, 70, 71, 72, 73, 74, 75, 76, 77, 78, 79, 80, 81, 82, 83, 84, 85, 86, 87, 88, 89, 90] (by decide +kernel) (by decide +kernel)
set_option maxRecDepth 20000 in
theorem gX12_nightsNow_X12_worthOf : GoodIn wsX12_nightsNow (wsV RX12 134 RX12 yX12_worthOf wsX12_worthOf) := goodIn_app (goodIn_of _ (by decide +kernel)) ggX12_nightsNow_X12_worthOf
set_option maxRecDepth 20000 in
theorem ggX12_nightsNow_X12_load : GoodIn wsX12_nightsNow wsX12_load := goodIn_r _ [52, 10, 9, 11, 12, 13, 14, 53, 54, 55, 56, 57, 58, 59, 60, 61, 62, 63, 64, 65, 66, 67, 68, 69, 70, 71, 72, 73, 74, 75, 76, 77, 78, 79, 80, 81, 82, 83, 84, 85, 86, 87, 88, 89, 90] (by decide +kernel) (by decide +kernel)
set_option maxRecDepth 20000 in
theorem gX12_nightsNow_X12_load : GoodIn wsX12_nightsNow (wsV RX12 179 RX12 yX12_load wsX12_load) := goodIn_app (goodIn_of _ (by decide +kernel)) ggX12_nightsNow_X12_load
theorem dX12_nightsNow_0 : decode cX12_nightsNow 0 = .ok (.aload_n 0, 1) := by decide +kernel
theorem dX12_nightsNow_1 : decode cX12_nightsNow 1 = .ok (.iconst 1, 1) := by decide +kernel
theorem dX12_nightsNow_2 : decode cX12_nightsNow 2 = .ok (.invokevirtual 176, 3) := by decide +kernel
theorem dX12_nightsNow_5 : decode cX12_nightsNow 5 = .ok (.aload_n 0, 1) := by decide +kernel
theorem dX12_nightsNow_6 : decode cX12_nightsNow 6 = .ok (.iload_n 2, 1) := by decide +kernel
theorem dX12_nightsNow_7 : decode cX12_nightsNow 7 = .ok (.i2l, 1) := by decide +kernel
theorem dX12_nightsNow_8 : decode cX12_nightsNow 8 = .ok (.putfield 250, 3) := by decide +kernel
theorem dX12_nightsNow_11 : decode cX12_nightsNow 11 = .ok (.iconst 0, 1) := by decide +kernel
theorem dX12_nightsNow_12 : decode cX12_nightsNow 12 = .ok (.istore 4, 2) := by decide +kernel
theorem dX12_nightsNow_14 : decode cX12_nightsNow 14 = .ok (.iconst 0, 1) := by decide +kernel
theorem dX12_nightsNow_15 : decode cX12_nightsNow 15 = .ok (.istore 5, 2) := by decide +kernel
theorem dX12_nightsNow_17 : decode cX12_nightsNow 17 = .ok (.iconst 0, 1) := by decide +kernel
theorem dX12_nightsNow_18 : decode cX12_nightsNow 18 = .ok (.istore 6, 2) := by decide +kernel
theorem dX12_nightsNow_20 : decode cX12_nightsNow 20 = .ok (.iload 6, 2) := by decide +kernel
theorem dX12_nightsNow_22 : decode cX12_nightsNow 22 = .ok (.iload_n 1, 1) := by decide +kernel
theorem dX12_nightsNow_23 : decode cX12_nightsNow 23 = .ok (.if_icmp .ge 95, 3) := by decide +kernel
theorem dX12_nightsNow_26 : decode cX12_nightsNow 26 = .ok (.aload_n 0, 1) := by decide +kernel
theorem dX12_nightsNow_27 : decode cX12_nightsNow 27 = .ok (.iconst 2, 1) := by decide +kernel
theorem dX12_nightsNow_28 : decode cX12_nightsNow 28 = .ok (.invokevirtual 260, 3) := by decide +kernel
theorem dX12_nightsNow_31 : decode cX12_nightsNow 31 = .ok (.ifCond .ne 10, 3) := by decide +kernel
theorem dX12_nightsNow_34 : decode cX12_nightsNow 34 = .ok (.aload_n 0, 1) := by decide +kernel
theorem dX12_nightsNow_35 : decode cX12_nightsNow 35 = .ok (.invokevirtual 169, 3) := by decide +kernel
theorem dX12_nightsNow_38 : decode cX12_nightsNow 38 = .ok (.goto 74, 3) := by decide +kernel
theorem dX12_nightsNow_41 : decode cX12_nightsNow 41 = .ok (.aload_n 0, 1) := by decide +kernel
theorem dX12_nightsNow_42 : decode cX12_nightsNow 42 = .ok (.aload_n 0, 1) := by decide +kernel
theorem dX12_nightsNow_43 : decode cX12_nightsNow 43 = .ok (.getfield 122, 3) := by decide +kernel
theorem dX12_nightsNow_46 : decode cX12_nightsNow 46 = .ok (.invokevirtual 260, 3) := by decide +kernel
theorem dX12_nightsNow_49 : decode cX12_nightsNow 49 = .ok (.istore 7, 2) := by decide +kernel
theorem dX12_nightsNow_51 : decode cX12_nightsNow 51 = .ok (.aload_n 0, 1) := by decide +kernel
theorem dX12_nightsNow_52 : decode cX12_nightsNow 52 = .ok (.aload_n 0, 1) := by decide +kernel
theorem dX12_nightsNow_53 : decode cX12_nightsNow 53 = .ok (.getfield 119, 3) := by decide +kernel
theorem dX12_nightsNow_56 : decode cX12_nightsNow 56 = .ok (.invokevirtual 260, 3) := by decide +kernel
theorem dX12_nightsNow_59 : decode cX12_nightsNow 59 = .ok (.istore 8, 2) := by decide +kernel
theorem dX12_nightsNow_61 : decode cX12_nightsNow 61 = .ok (.aload_n 0, 1) := by decide +kernel
theorem dX12_nightsNow_62 : decode cX12_nightsNow 62 = .ok (.iload 8, 2) := by decide +kernel
theorem dX12_nightsNow_64 : decode cX12_nightsNow 64 = .ok (.invokevirtual 138, 3) := by decide +kernel
theorem dX12_nightsNow_67 : decode cX12_nightsNow 67 = .ok (.istore 9, 2) := by decide +kernel
theorem dX12_nightsNow_69 : decode cX12_nightsNow 69 = .ok (.iload 9, 2) := by decide +kernel
theorem dX12_nightsNow_71 : decode cX12_nightsNow 71 = .ok (.iconst (-1), 1) := by decide +kernel
theorem dX12_nightsNow_72 : decode cX12_nightsNow 72 = .ok (.if_icmp .eq 40, 3) := by decide +kernel
theorem dX12_nightsNow_75 : decode cX12_nightsNow 75 = .ok (.aload_n 0, 1) := by decide +kernel
theorem dX12_nightsNow_76 : decode cX12_nightsNow 76 = .ok (.iload 8, 2) := by decide +kernel
theorem dX12_nightsNow_78 : decode cX12_nightsNow 78 = .ok (.iload 9, 2) := by decide +kernel
theorem dX12_nightsNow_80 : decode cX12_nightsNow 80 = .ok (.invokevirtual 172, 3) := by decide +kernel
theorem dX12_nightsNow_83 : decode cX12_nightsNow 83 = .ok (.iload 4, 2) := by decide +kernel
theorem dX12_nightsNow_85 : decode cX12_nightsNow 85 = .ok (.iload 9, 2) := by decide +kernel
theorem dX12_nightsNow_87 : decode cX12_nightsNow 87 = .ok (.iconst 2, 1) := by decide +kernel
theorem dX12_nightsNow_88 : decode cX12_nightsNow 88 = .ok (.if_icmp .ne 7, 3) := by decide +kernel
theorem dX12_nightsNow_91 : decode cX12_nightsNow 91 = .ok (.iconst 1, 1) := by decide +kernel
theorem dX12_nightsNow_92 : decode cX12_nightsNow 92 = .ok (.goto 4, 3) := by decide +kernel
theorem dX12_nightsNow_95 : decode cX12_nightsNow 95 = .ok (.iconst 0, 1) := by decide +kernel
theorem dX12_nightsNow_96 : decode cX12_nightsNow 96 = .ok (.iadd, 1) := by decide +kernel
theorem dX12_nightsNow_97 : decode cX12_nightsNow 97 = .ok (.istore 4, 2) := by decide +kernel
theorem dX12_nightsNow_99 : decode cX12_nightsNow 99 = .ok (.iload 5, 2) := by decide +kernel
theorem dX12_nightsNow_101 : decode cX12_nightsNow 101 = .ok (.aload_n 0, 1) := by decide +kernel
theorem dX12_nightsNow_102 : decode cX12_nightsNow 102 = .ok (.iload 7, 2) := by decide +kernel
theorem dX12_nightsNow_104 : decode cX12_nightsNow 104 = .ok (.iload 9, 2) := by decide +kernel
theorem dX12_nightsNow_106 : decode cX12_nightsNow 106 = .ok (.invokevirtual 134, 3) := by decide +kernel
theorem dX12_nightsNow_109 : decode cX12_nightsNow 109 = .ok (.iadd, 1) := by decide +kernel
theorem dX12_nightsNow_110 : decode cX12_nightsNow 110 = .ok (.istore 5, 2) := by decide +kernel
theorem dX12_nightsNow_112 : decode cX12_nightsNow 112 = .ok (.iinc 6 1, 3) := by decide +kernel
theorem dX12_nightsNow_115 : decode cX12_nightsNow 115 = .ok (.goto (-95), 3) := by decide +kernel
theorem dX12_nightsNow_118 : decode cX12_nightsNow 118 = .ok (.aload_n 0, 1) := by decide +kernel
theorem dX12_nightsNow_119 : decode cX12_nightsNow 119 = .ok (.iconst 1, 1) := by decide +kernel
theorem dX12_nightsNow_120 : decode cX12_nightsNow 120 = .ok (.invokevirtual 179, 3) := by decide +kernel
theorem dX12_nightsNow_123 : decode cX12_nightsNow 123 = .ok (.iload_n 3, 1) := by decide +kernel
theorem dX12_nightsNow_124 : decode cX12_nightsNow 124 = .ok (.ifCond .ne 8, 3) := by decide +kernel
theorem dX12_nightsNow_127 : decode cX12_nightsNow 127 = .ok (.iload 4, 2) := by decide +kernel
theorem dX12_nightsNow_129 : decode cX12_nightsNow 129 = .ok (.goto 18, 3) := by decide +kernel
theorem dX12_nightsNow_132 : decode cX12_nightsNow 132 = .ok (.iload_n 3, 1) := by decide +kernel
theorem dX12_nightsNow_133 : decode cX12_nightsNow 133 = .ok (.iconst 1, 1) := by decide +kernel
theorem dX12_nightsNow_134 : decode cX12_nightsNow 134 = .ok (.if_icmp .ne 8, 3) := by decide +kernel
theorem dX12_nightsNow_137 : decode cX12_nightsNow 137 = .ok (.iload 5, 2) := by decide +kernel
theorem dX12_nightsNow_139 : decode cX12_nightsNow 139 = .ok (.goto 8, 3) := by decide +kernel
theorem dX12_nightsNow_142 : decode cX12_nightsNow 142 = .ok (.aload_n 0, 1) := by decide +kernel
theorem dX12_nightsNow_143 : decode cX12_nightsNow 143 = .ok (.getfield 250, 3) := by decide +kernel
theorem dX12_nightsNow_146 : decode cX12_nightsNow 146 = .ok (.l2i, 1) := by decide +kernel
theorem dX12_nightsNow_147 : decode cX12_nightsNow 147 = .ok (.ireturn, 1) := by decide +kernel
set_option maxRecDepth 20000 in
theorem ggX12_nights_X12_within : GoodIn wsX12_nights wsX12_within := goodIn_r _ [5] (by decide +kernel) (by decide +kernel)
set_option maxRecDepth 20000 in
theorem gX12_nights_X12_within : GoodIn wsX12_nights (va_wsS RX12 77 yX12_within wsX12_within) := goodIn_app (goodIn_of _ (by decide +kernel)) ggX12_nights_X12_within
set_option maxRecDepth 20000 in
theorem ggX12_nights_X12_nightsNow : GoodIn wsX12_nights wsX12_nightsNow := goodIn_r _ [9, 10, 11, 1, 12, 13, 14, 4, 15, 16, 17, 18, 19, 20, 21, 22, 23, 24, 25, 26, 27, 28, 29, 30, 31, 32, 33, 34, 35, 36, 37, 38, 39, 40, 41, 42, 43, 44, 45, 46, 47, 48, 49, 50, 51, 52, 53, 54, 55, 56, 57, 58, 59, 60, 61, 62, 63, 64, 65, 66, 67, 68, 69, 70, 71, 72, 73, 74, 75, 76, 77, 78, 79, 80, 81, 82, 83, 84, 85, 86, 87, 88, 89, 90, 91, 92, 93, 94, 95, 96, 97] (by decide +kernel) (by decide +kernel)
set_option maxRecDepth 20000 in
theorem gX12_nights_X12_nightsNow : GoodIn wsX12_nights (wsV RX12 263 RX12 yX12_nightsNow wsX12_nightsNow) := goodIn_app (goodIn_of _ (by decide +kernel)) ggX12_nights_X12_nightsNow
theorem dX12_nights_0 : decode cX12_nights 0 = .ok (.iload_n 1, 1) := by decide +kernel
theorem dX12_nights_1 : decode cX12_nights 1 = .ok (.iconst 1, 1) := by decide +kernel
theorem dX12_nights_2 : decode cX12_nights 2 = .ok (.bipush 60, 2) := by decide +kernel
theorem dX12_nights_4 : decode cX12_nights 4 = .ok (.invokestatic 77, 3) := by decide +kernel
theorem dX12_nights_7 : decode cX12_nights 7 = .ok (.ifCond .eq 16, 3) := by decide +kernel
theorem dX12_nights_10 : decode cX12_nights 10 = .ok (.iload_n 2, 1) := by decide +kernel
theorem dX12_nights_11 : decode cX12_nights 11 = .ok (.ifCond .lt 12, 3) := by decide +kernel
theorem dX12_nights_14 : decode cX12_nights 14 = .ok (.iload_n 3, 1) := by decide +kernel
theorem dX12_nights_15 : decode cX12_nights 15 = .ok (.iconst 0, 1) := by decide +kernel
theorem dX12_nights_16 : decode cX12_nights 16 = .ok (.iconst 2, 1) := by decide +kernel
theorem dX12_nights_17 : decode cX12_nights 17 = .ok (.invokestatic 77, 3) := by decide +kernel
theorem dX12_nights_20 : decode cX12_nights 20 = .ok (.ifCond .ne 6, 3) := by decide +kernel
theorem dX12_nights_23 : decode cX12_nights 23 = .ok (.bipush (-102), 2) := by decide +kernel
theorem dX12_nights_25 : decode cX12_nights 25 = .ok (.ireturn, 1) := by decide +kernel
theorem dX12_nights_26 : decode cX12_nights 26 = .ok (.aload_n 0, 1) := by decide +kernel
theorem dX12_nights_27 : decode cX12_nights 27 = .ok (.getfield 119, 3) := by decide +kernel
theorem dX12_nights_30 : decode cX12_nights 30 = .ok (.ifCond .ne 8, 3) := by decide +kernel
theorem dX12_nights_33 : decode cX12_nights 33 = .ok (.bipush (-103), 2) := by decide +kernel
theorem dX12_nights_35 : decode cX12_nights 35 = .ok (.goto 10, 3) := by decide +kernel
theorem dX12_nights_38 : decode cX12_nights 38 = .ok (.aload_n 0, 1) := by decide +kernel
theorem dX12_nights_39 : decode cX12_nights 39 = .ok (.iload_n 1, 1) := by decide +kernel
theorem dX12_nights_40 : decode cX12_nights 40 = .ok (.iload_n 2, 1) := by decide +kernel
theorem dX12_nights_41 : decode cX12_nights 41 = .ok (.iload_n 3, 1) := by decide +kernel
theorem dX12_nights_42 : decode cX12_nights 42 = .ok (.invokevirtual 263, 3) := by decide +kernel
theorem dX12_nights_45 : decode cX12_nights 45 = .ok (.ireturn, 1) := by decide +kernel
set_option maxRecDepth 20000 in
theorem ggX12_image_X12_save : GoodIn wsX12_image wsX12_save := goodIn_r _ [21, 22, 23, 24, 25, 26, 27, 28, 29, 30, 31, 32, 33, 34, 35, 36, 37, 38, 39, 40, 41, 42, 43, 44, 45, 46, 47, 48, 49, 50, 51, 52, 53, 54, 55, 56, 57, 58, 59, 60, 61, 62, 63, 64, 65] (by decide +kernel) (by decide +kernel)
set_option maxRecDepth 20000 in
theorem gX12_image_X12_save : GoodIn wsX12_image (wsV RX12 176 RX12 yX12_save wsX12_save) := goodIn_app (goodIn_of _ (by decide +kernel)) ggX12_image_X12_save
theorem dX12_image_0 : decode cX12_image 0 = .ok (.aload_n 0, 1) := by decide +kernel
theorem dX12_image_1 : decode cX12_image 1 = .ok (.getfield 119, 3) := by decide +kernel
theorem dX12_image_4 : decode cX12_image 4 = .ok (.ifCond .ne 6, 3) := by decide +kernel
theorem dX12_image_7 : decode cX12_image 7 = .ok (.bipush (-103), 2) := by decide +kernel
theorem dX12_image_9 : decode cX12_image 9 = .ok (.ireturn, 1) := by decide +kernel
theorem dX12_image_10 : decode cX12_image 10 = .ok (.aload_n 0, 1) := by decide +kernel
theorem dX12_image_11 : decode cX12_image 11 = .ok (.iconst 1, 1) := by decide +kernel
theorem dX12_image_12 : decode cX12_image 12 = .ok (.putfield 266, 3) := by decide +kernel
theorem dX12_image_15 : decode cX12_image 15 = .ok (.aload_n 0, 1) := by decide +kernel
theorem dX12_image_16 : decode cX12_image 16 = .ok (.aload_n 0, 1) := by decide +kernel
theorem dX12_image_17 : decode cX12_image 17 = .ok (.getfield 128, 3) := by decide +kernel
theorem dX12_image_20 : decode cX12_image 20 = .ok (.putfield 269, 3) := by decide +kernel
theorem dX12_image_23 : decode cX12_image 23 = .ok (.aload_n 0, 1) := by decide +kernel
theorem dX12_image_24 : decode cX12_image 24 = .ok (.aload_n 0, 1) := by decide +kernel
theorem dX12_image_25 : decode cX12_image 25 = .ok (.getfield 125, 3) := by decide +kernel
theorem dX12_image_28 : decode cX12_image 28 = .ok (.putfield 272, 3) := by decide +kernel
theorem dX12_image_31 : decode cX12_image 31 = .ok (.aload_n 0, 1) := by decide +kernel
theorem dX12_image_32 : decode cX12_image 32 = .ok (.aload_n 0, 1) := by decide +kernel
theorem dX12_image_33 : decode cX12_image 33 = .ok (.getfield 131, 3) := by decide +kernel
theorem dX12_image_36 : decode cX12_image 36 = .ok (.putfield 275, 3) := by decide +kernel
theorem dX12_image_39 : decode cX12_image 39 = .ok (.aload_n 0, 1) := by decide +kernel
theorem dX12_image_40 : decode cX12_image 40 = .ok (.iconst 0, 1) := by decide +kernel
theorem dX12_image_41 : decode cX12_image 41 = .ok (.invokevirtual 176, 3) := by decide +kernel
theorem dX12_image_44 : decode cX12_image 44 = .ok (.iconst 0, 1) := by decide +kernel
theorem dX12_image_45 : decode cX12_image 45 = .ok (.istore_n 1, 1) := by decide +kernel
theorem dX12_image_46 : decode cX12_image 46 = .ok (.iload_n 1, 1) := by decide +kernel
theorem dX12_image_47 : decode cX12_image 47 = .ok (.bipush 20, 2) := by decide +kernel
theorem dX12_image_49 : decode cX12_image 49 = .ok (.if_icmp .ge 21, 3) := by decide +kernel
theorem dX12_image_52 : decode cX12_image 52 = .ok (.aload_n 0, 1) := by decide +kernel
theorem dX12_image_53 : decode cX12_image 53 = .ok (.getfield 65, 3) := by decide +kernel
theorem dX12_image_56 : decode cX12_image 56 = .ok (.iload_n 1, 1) := by decide +kernel
theorem dX12_image_57 : decode cX12_image 57 = .ok (.aload_n 0, 1) := by decide +kernel
theorem dX12_image_58 : decode cX12_image 58 = .ok (.getfield 31, 3) := by decide +kernel
theorem dX12_image_61 : decode cX12_image 61 = .ok (.iload_n 1, 1) := by decide +kernel
theorem dX12_image_62 : decode cX12_image 62 = .ok (.iaload, 1) := by decide +kernel
theorem dX12_image_63 : decode cX12_image 63 = .ok (.iastore, 1) := by decide +kernel
theorem dX12_image_64 : decode cX12_image 64 = .ok (.iinc 1 1, 3) := by decide +kernel
theorem dX12_image_67 : decode cX12_image 67 = .ok (.goto (-21), 3) := by decide +kernel
theorem dX12_image_70 : decode cX12_image 70 = .ok (.iconst 0, 1) := by decide +kernel
theorem dX12_image_71 : decode cX12_image 71 = .ok (.istore_n 1, 1) := by decide +kernel
theorem dX12_image_72 : decode cX12_image 72 = .ok (.iload_n 1, 1) := by decide +kernel
theorem dX12_image_73 : decode cX12_image 73 = .ok (.bipush 6, 2) := by decide +kernel
theorem dX12_image_75 : decode cX12_image 75 = .ok (.if_icmp .ge 45, 3) := by decide +kernel
theorem dX12_image_78 : decode cX12_image 78 = .ok (.aload_n 0, 1) := by decide +kernel
theorem dX12_image_79 : decode cX12_image 79 = .ok (.getfield 68, 3) := by decide +kernel
theorem dX12_image_82 : decode cX12_image 82 = .ok (.iload_n 1, 1) := by decide +kernel
theorem dX12_image_83 : decode cX12_image 83 = .ok (.aload_n 0, 1) := by decide +kernel
theorem dX12_image_84 : decode cX12_image 84 = .ok (.getfield 34, 3) := by decide +kernel
theorem dX12_image_87 : decode cX12_image 87 = .ok (.iload_n 1, 1) := by decide +kernel
theorem dX12_image_88 : decode cX12_image 88 = .ok (.iaload, 1) := by decide +kernel
theorem dX12_image_89 : decode cX12_image 89 = .ok (.iastore, 1) := by decide +kernel
theorem dX12_image_90 : decode cX12_image 90 = .ok (.aload_n 0, 1) := by decide +kernel
theorem dX12_image_91 : decode cX12_image 91 = .ok (.getfield 71, 3) := by decide +kernel
theorem dX12_image_94 : decode cX12_image 94 = .ok (.iload_n 1, 1) := by decide +kernel
theorem dX12_image_95 : decode cX12_image 95 = .ok (.aload_n 0, 1) := by decide +kernel
theorem dX12_image_96 : decode cX12_image 96 = .ok (.getfield 37, 3) := by decide +kernel
theorem dX12_image_99 : decode cX12_image 99 = .ok (.iload_n 1, 1) := by decide +kernel
theorem dX12_image_100 : decode cX12_image 100 = .ok (.iaload, 1) := by decide +kernel
theorem dX12_image_101 : decode cX12_image 101 = .ok (.iastore, 1) := by decide +kernel
theorem dX12_image_102 : decode cX12_image 102 = .ok (.aload_n 0, 1) := by decide +kernel
theorem dX12_image_103 : decode cX12_image 103 = .ok (.getfield 74, 3) := by decide +kernel
theorem dX12_image_106 : decode cX12_image 106 = .ok (.iload_n 1, 1) := by decide +kernel
theorem dX12_image_107 : decode cX12_image 107 = .ok (.aload_n 0, 1) := by decide +kernel
theorem dX12_image_108 : decode cX12_image 108 = .ok (.getfield 40, 3) := by decide +kernel
theorem dX12_image_111 : decode cX12_image 111 = .ok (.iload_n 1, 1) := by decide +kernel
theorem dX12_image_112 : decode cX12_image 112 = .ok (.iaload, 1) := by decide +kernel
theorem dX12_image_113 : decode cX12_image 113 = .ok (.iastore, 1) := by decide +kernel
theorem dX12_image_114 : decode cX12_image 114 = .ok (.iinc 1 1, 3) := by decide +kernel
theorem dX12_image_117 : decode cX12_image 117 = .ok (.goto (-45), 3) := by decide +kernel
theorem dX12_image_120 : decode cX12_image 120 = .ok (.aload_n 0, 1) := by decide +kernel
theorem dX12_image_121 : decode cX12_image 121 = .ok (.getfield 125, 3) := by decide +kernel
theorem dX12_image_124 : decode cX12_image 124 = .ok (.ireturn, 1) := by decide +kernel
set_option maxRecDepth 20000 in
theorem ggX12_restore_X12_load : GoodIn wsX12_restore wsX12_load := goodIn_r _ [20, 21, 22, 23, 24, 25, 26, 27, 28, 29, 30, 31, 32, 33, 34, 35, 36, 37, 38, 39, 40, 41, 42, 43, 44, 45, 46, 47, 48, 49, 50, 51, 52, 53, 54, 55, 56, 57, 58, 59, 60, 61, 62, 63, 64] (by decide +kernel) (by decide +kernel)
set_option maxRecDepth 20000 in
theorem gX12_restore_X12_load : GoodIn wsX12_restore (wsV RX12 179 RX12 yX12_load wsX12_load) := goodIn_app (goodIn_of _ (by decide +kernel)) ggX12_restore_X12_load
theorem dX12_restore_0 : decode cX12_restore 0 = .ok (.aload_n 0, 1) := by decide +kernel
theorem dX12_restore_1 : decode cX12_restore 1 = .ok (.getfield 266, 3) := by decide +kernel
theorem dX12_restore_4 : decode cX12_restore 4 = .ok (.ifCond .eq 14, 3) := by decide +kernel
theorem dX12_restore_7 : decode cX12_restore 7 = .ok (.aload_n 0, 1) := by decide +kernel
theorem dX12_restore_8 : decode cX12_restore 8 = .ok (.getfield 269, 3) := by decide +kernel
theorem dX12_restore_11 : decode cX12_restore 11 = .ok (.aload_n 0, 1) := by decide +kernel
theorem dX12_restore_12 : decode cX12_restore 12 = .ok (.getfield 128, 3) := by decide +kernel
theorem dX12_restore_15 : decode cX12_restore 15 = .ok (.if_icmp .eq 6, 3) := by decide +kernel
theorem dX12_restore_18 : decode cX12_restore 18 = .ok (.bipush (-103), 2) := by decide +kernel
theorem dX12_restore_20 : decode cX12_restore 20 = .ok (.ireturn, 1) := by decide +kernel
theorem dX12_restore_21 : decode cX12_restore 21 = .ok (.aload_n 0, 1) := by decide +kernel
theorem dX12_restore_22 : decode cX12_restore 22 = .ok (.aload_n 0, 1) := by decide +kernel
theorem dX12_restore_23 : decode cX12_restore 23 = .ok (.getfield 272, 3) := by decide +kernel
theorem dX12_restore_26 : decode cX12_restore 26 = .ok (.putfield 125, 3) := by decide +kernel
theorem dX12_restore_29 : decode cX12_restore 29 = .ok (.aload_n 0, 1) := by decide +kernel
theorem dX12_restore_30 : decode cX12_restore 30 = .ok (.aload_n 0, 1) := by decide +kernel
theorem dX12_restore_31 : decode cX12_restore 31 = .ok (.getfield 275, 3) := by decide +kernel
theorem dX12_restore_34 : decode cX12_restore 34 = .ok (.putfield 131, 3) := by decide +kernel
theorem dX12_restore_37 : decode cX12_restore 37 = .ok (.aload_n 0, 1) := by decide +kernel
theorem dX12_restore_38 : decode cX12_restore 38 = .ok (.iconst 0, 1) := by decide +kernel
theorem dX12_restore_39 : decode cX12_restore 39 = .ok (.invokevirtual 179, 3) := by decide +kernel
theorem dX12_restore_42 : decode cX12_restore 42 = .ok (.iconst 0, 1) := by decide +kernel
theorem dX12_restore_43 : decode cX12_restore 43 = .ok (.istore_n 1, 1) := by decide +kernel
theorem dX12_restore_44 : decode cX12_restore 44 = .ok (.iload_n 1, 1) := by decide +kernel
theorem dX12_restore_45 : decode cX12_restore 45 = .ok (.bipush 20, 2) := by decide +kernel
theorem dX12_restore_47 : decode cX12_restore 47 = .ok (.if_icmp .ge 21, 3) := by decide +kernel
theorem dX12_restore_50 : decode cX12_restore 50 = .ok (.aload_n 0, 1) := by decide +kernel
theorem dX12_restore_51 : decode cX12_restore 51 = .ok (.getfield 31, 3) := by decide +kernel
theorem dX12_restore_54 : decode cX12_restore 54 = .ok (.iload_n 1, 1) := by decide +kernel
theorem dX12_restore_55 : decode cX12_restore 55 = .ok (.aload_n 0, 1) := by decide +kernel
theorem dX12_restore_56 : decode cX12_restore 56 = .ok (.getfield 65, 3) := by decide +kernel
theorem dX12_restore_59 : decode cX12_restore 59 = .ok (.iload_n 1, 1) := by decide +kernel
theorem dX12_restore_60 : decode cX12_restore 60 = .ok (.iaload, 1) := by decide +kernel
theorem dX12_restore_61 : decode cX12_restore 61 = .ok (.iastore, 1) := by decide +kernel
theorem dX12_restore_62 : decode cX12_restore 62 = .ok (.iinc 1 1, 3) := by decide +kernel
theorem dX12_restore_65 : decode cX12_restore 65 = .ok (.goto (-21), 3) := by decide +kernel
theorem dX12_restore_68 : decode cX12_restore 68 = .ok (.iconst 0, 1) := by decide +kernel
theorem dX12_restore_69 : decode cX12_restore 69 = .ok (.istore_n 1, 1) := by decide +kernel
theorem dX12_restore_70 : decode cX12_restore 70 = .ok (.iload_n 1, 1) := by decide +kernel
theorem dX12_restore_71 : decode cX12_restore 71 = .ok (.bipush 6, 2) := by decide +kernel
theorem dX12_restore_73 : decode cX12_restore 73 = .ok (.if_icmp .ge 45, 3) := by decide +kernel
theorem dX12_restore_76 : decode cX12_restore 76 = .ok (.aload_n 0, 1) := by decide +kernel
theorem dX12_restore_77 : decode cX12_restore 77 = .ok (.getfield 34, 3) := by decide +kernel
theorem dX12_restore_80 : decode cX12_restore 80 = .ok (.iload_n 1, 1) := by decide +kernel
theorem dX12_restore_81 : decode cX12_restore 81 = .ok (.aload_n 0, 1) := by decide +kernel
theorem dX12_restore_82 : decode cX12_restore 82 = .ok (.getfield 68, 3) := by decide +kernel
theorem dX12_restore_85 : decode cX12_restore 85 = .ok (.iload_n 1, 1) := by decide +kernel
theorem dX12_restore_86 : decode cX12_restore 86 = .ok (.iaload, 1) := by decide +kernel
theorem dX12_restore_87 : decode cX12_restore 87 = .ok (.iastore, 1) := by decide +kernel
theorem dX12_restore_88 : decode cX12_restore 88 = .ok (.aload_n 0, 1) := by decide +kernel
theorem dX12_restore_89 : decode cX12_restore 89 = .ok (.getfield 37, 3) := by decide +kernel
theorem dX12_restore_92 : decode cX12_restore 92 = .ok (.iload_n 1, 1) := by decide +kernel
theorem dX12_restore_93 : decode cX12_restore 93 = .ok (.aload_n 0, 1) := by decide +kernel
theorem dX12_restore_94 : decode cX12_restore 94 = .ok (.getfield 71, 3) := by decide +kernel
theorem dX12_restore_97 : decode cX12_restore 97 = .ok (.iload_n 1, 1) := by decide +kernel
theorem dX12_restore_98 : decode cX12_restore 98 = .ok (.iaload, 1) := by decide +kernel
theorem dX12_restore_99 : decode cX12_restore 99 = .ok (.iastore, 1) := by decide +kernel
theorem dX12_restore_100 : decode cX12_restore 100 = .ok (.aload_n 0, 1) := by decide +kernel
theorem dX12_restore_101 : decode cX12_restore 101 = .ok (.getfield 40, 3) := by decide +kernel
theorem dX12_restore_104 : decode cX12_restore 104 = .ok (.iload_n 1, 1) := by decide +kernel
theorem dX12_restore_105 : decode cX12_restore 105 = .ok (.aload_n 0, 1) := by decide +kernel
theorem dX12_restore_106 : decode cX12_restore 106 = .ok (.getfield 74, 3) := by decide +kernel
theorem dX12_restore_109 : decode cX12_restore 109 = .ok (.iload_n 1, 1) := by decide +kernel
theorem dX12_restore_110 : decode cX12_restore 110 = .ok (.iaload, 1) := by decide +kernel
theorem dX12_restore_111 : decode cX12_restore 111 = .ok (.iastore, 1) := by decide +kernel
theorem dX12_restore_112 : decode cX12_restore 112 = .ok (.iinc 1 1, 3) := by decide +kernel
theorem dX12_restore_115 : decode cX12_restore 115 = .ok (.goto (-45), 3) := by decide +kernel
theorem dX12_restore_118 : decode cX12_restore 118 = .ok (.aload_n 0, 1) := by decide +kernel
theorem dX12_restore_119 : decode cX12_restore 119 = .ok (.getfield 125, 3) := by decide +kernel
theorem dX12_restore_122 : decode cX12_restore 122 = .ok (.ireturn, 1) := by decide +kernel
set_option maxRecDepth 20000 in
theorem ggX12_inPans_X12_panNow : GoodIn wsX12_inPans wsX12_panNow := goodIn_r _ [6, 7, 8, 9, 10, 11, 12, 13, 14, 15, 5, 16, 17, 18, 19, 20, 21, 22, 23, 24, 25, 26, 27, 28, 29, 30, 31, 32, 33, 34, 35, 36, 37, 38, 39, 40, 41, 42, 43, 44, 45, 46, 47, 48, 49, 50, 51, 52, 53, 54, 55, 56, 57, 58, 59, 60, 61, 62, 63, 64, 65, 66, 67, 68, 69, 70, 71, 72, 73, 74, 75, 76, 77, 78] (by decide +kernel) (by decide +kernel)
set_option maxRecDepth 20000 in
theorem gX12_inPans_X12_panNow : GoodIn wsX12_inPans (wsV RX12 150 RX12 yX12_panNow wsX12_panNow) := goodIn_app (goodIn_of _ (by decide +kernel)) ggX12_inPans_X12_panNow
theorem dX12_inPans_0 : decode cX12_inPans 0 = .ok (.iconst 0, 1) := by decide +kernel
theorem dX12_inPans_1 : decode cX12_inPans 1 = .ok (.istore_n 2, 1) := by decide +kernel
theorem dX12_inPans_2 : decode cX12_inPans 2 = .ok (.iconst 0, 1) := by decide +kernel
theorem dX12_inPans_3 : decode cX12_inPans 3 = .ok (.istore_n 3, 1) := by decide +kernel
theorem dX12_inPans_4 : decode cX12_inPans 4 = .ok (.iload_n 3, 1) := by decide +kernel
theorem dX12_inPans_5 : decode cX12_inPans 5 = .ok (.aload_n 0, 1) := by decide +kernel
theorem dX12_inPans_6 : decode cX12_inPans 6 = .ok (.getfield 119, 3) := by decide +kernel
theorem dX12_inPans_9 : decode cX12_inPans 9 = .ok (.if_icmp .ge 18, 3) := by decide +kernel
theorem dX12_inPans_12 : decode cX12_inPans 12 = .ok (.iload_n 2, 1) := by decide +kernel
theorem dX12_inPans_13 : decode cX12_inPans 13 = .ok (.aload_n 0, 1) := by decide +kernel
theorem dX12_inPans_14 : decode cX12_inPans 14 = .ok (.iload_n 3, 1) := by decide +kernel
theorem dX12_inPans_15 : decode cX12_inPans 15 = .ok (.iload_n 1, 1) := by decide +kernel
theorem dX12_inPans_16 : decode cX12_inPans 16 = .ok (.invokevirtual 150, 3) := by decide +kernel
theorem dX12_inPans_19 : decode cX12_inPans 19 = .ok (.iadd, 1) := by decide +kernel
theorem dX12_inPans_20 : decode cX12_inPans 20 = .ok (.istore_n 2, 1) := by decide +kernel
theorem dX12_inPans_21 : decode cX12_inPans 21 = .ok (.iinc 3 1, 3) := by decide +kernel
theorem dX12_inPans_24 : decode cX12_inPans 24 = .ok (.goto (-20), 3) := by decide +kernel
theorem dX12_inPans_27 : decode cX12_inPans 27 = .ok (.iload_n 2, 1) := by decide +kernel
theorem dX12_inPans_28 : decode cX12_inPans 28 = .ok (.ireturn, 1) := by decide +kernel
set_option maxRecDepth 20000 in
theorem ggX12_ofChildren_X12_worthHad : GoodIn wsX12_ofChildren wsX12_worthHad := goodIn_r _ [7, 2, 8, 9, 10, 6, 11, 12, 13, 14, 15, 16, 17, 18, 19, 20, 21, 22, 23, 24, 25, 26, 27, 28, 29, 30, 31, 32, 33, 34, 35, 36, 37, 38, 39, 40, 41, 42, 43, 44, 45, 46, 47, 48, 49, 50] (by decide +kernel) (by decide +kernel)
set_option maxRecDepth 20000 in
theorem gX12_ofChildren_X12_worthHad : GoodIn wsX12_ofChildren (wsV RX12 153 RX12 yX12_worthHad wsX12_worthHad) := goodIn_app (goodIn_of _ (by decide +kernel)) ggX12_ofChildren_X12_worthHad
theorem dX12_ofChildren_0 : decode cX12_ofChildren 0 = .ok (.iconst 0, 1) := by decide +kernel
theorem dX12_ofChildren_1 : decode cX12_ofChildren 1 = .ok (.istore_n 2, 1) := by decide +kernel
theorem dX12_ofChildren_2 : decode cX12_ofChildren 2 = .ok (.iconst 0, 1) := by decide +kernel
theorem dX12_ofChildren_3 : decode cX12_ofChildren 3 = .ok (.istore_n 3, 1) := by decide +kernel
theorem dX12_ofChildren_4 : decode cX12_ofChildren 4 = .ok (.iload_n 3, 1) := by decide +kernel
theorem dX12_ofChildren_5 : decode cX12_ofChildren 5 = .ok (.aload_n 0, 1) := by decide +kernel
theorem dX12_ofChildren_6 : decode cX12_ofChildren 6 = .ok (.getfield 122, 3) := by decide +kernel
theorem dX12_ofChildren_9 : decode cX12_ofChildren 9 = .ok (.if_icmp .ge 34, 3) := by decide +kernel
theorem dX12_ofChildren_12 : decode cX12_ofChildren 12 = .ok (.iload_n 2, 1) := by decide +kernel
theorem dX12_ofChildren_13 : decode cX12_ofChildren 13 = .ok (.iload_n 1, 1) := by decide +kernel
theorem dX12_ofChildren_14 : decode cX12_ofChildren 14 = .ok (.ifCond .eq 11, 3) := by decide +kernel
theorem dX12_ofChildren_17 : decode cX12_ofChildren 17 = .ok (.aload_n 0, 1) := by decide +kernel
theorem dX12_ofChildren_18 : decode cX12_ofChildren 18 = .ok (.iload_n 3, 1) := by decide +kernel
theorem dX12_ofChildren_19 : decode cX12_ofChildren 19 = .ok (.invokevirtual 153, 3) := by decide +kernel
theorem dX12_ofChildren_22 : decode cX12_ofChildren 22 = .ok (.goto 13, 3) := by decide +kernel
theorem dX12_ofChildren_25 : decode cX12_ofChildren 25 = .ok (.aload_n 0, 1) := by decide +kernel
theorem dX12_ofChildren_26 : decode cX12_ofChildren 26 = .ok (.getfield 31, 3) := by decide +kernel
theorem dX12_ofChildren_29 : decode cX12_ofChildren 29 = .ok (.iconst 4, 1) := by decide +kernel
theorem dX12_ofChildren_30 : decode cX12_ofChildren 30 = .ok (.iload_n 3, 1) := by decide +kernel
theorem dX12_ofChildren_31 : decode cX12_ofChildren 31 = .ok (.imul, 1) := by decide +kernel
theorem dX12_ofChildren_32 : decode cX12_ofChildren 32 = .ok (.iconst 2, 1) := by decide +kernel
theorem dX12_ofChildren_33 : decode cX12_ofChildren 33 = .ok (.iadd, 1) := by decide +kernel
theorem dX12_ofChildren_34 : decode cX12_ofChildren 34 = .ok (.iaload, 1) := by decide +kernel
theorem dX12_ofChildren_35 : decode cX12_ofChildren 35 = .ok (.iadd, 1) := by decide +kernel
theorem dX12_ofChildren_36 : decode cX12_ofChildren 36 = .ok (.istore_n 2, 1) := by decide +kernel
theorem dX12_ofChildren_37 : decode cX12_ofChildren 37 = .ok (.iinc 3 1, 3) := by decide +kernel
theorem dX12_ofChildren_40 : decode cX12_ofChildren 40 = .ok (.goto (-36), 3) := by decide +kernel
theorem dX12_ofChildren_43 : decode cX12_ofChildren 43 = .ok (.iload_n 2, 1) := by decide +kernel
theorem dX12_ofChildren_44 : decode cX12_ofChildren 44 = .ok (.ireturn, 1) := by decide +kernel
set_option maxRecDepth 20000 in
theorem ggX12_howMany_X12_inPans : GoodIn wsX12_howMany wsX12_inPans := goodIn_r _ [12, 1, 13, 14, 15, 11, 16, 17, 18, 19, 20, 21, 22, 23, 24, 25, 26, 27, 28, 29, 30, 4, 31, 32, 33, 34, 35, 36, 37, 38, 39, 40, 41, 42, 43, 44, 45, 46, 47, 48, 49, 64, 65, 66, 67, 68, 69, 70, 71, 72, 73, 74, 75, 76, 77, 78, 79, 80, 81, 82, 83, 84, 85, 86, 87, 88, 89, 90, 91, 92, 93, 94, 95, 96, 97, 98, 99, 100, 101] (by decide +kernel) (by decide +kernel)
set_option maxRecDepth 20000 in
theorem gX12_howMany_X12_inPans : GoodIn wsX12_howMany (wsV RX12 278 RX12 yX12_inPans wsX12_inPans) := goodIn_app (goodIn_of _ (by decide +kernel)) ggX12_howMany_X12_inPans
set_option maxRecDepth 20000 in
theorem ggX12_howMany_X12_ofChildren : GoodIn wsX12_howMany wsX12_ofChildren := goodIn_r _ [53, 2, 54, 55, 56, 57, 11, 58, 59, 60, 61, 62, 63, 64, 65, 66, 67, 68, 69, 70, 71, 72, 73, 74, 75, 76, 77, 78, 79, 80, 81, 82, 83, 84, 85, 86, 87, 88, 89, 90, 91, 92, 93, 94, 95, 96, 97, 98, 99, 100, 101] (by decide +kernel) (by decide +kernel)
set_option maxRecDepth 20000 in
theorem gX12_howMany_X12_ofChildren : GoodIn wsX12_howMany (wsV RX12 281 RX12 yX12_ofChildren wsX12_ofChildren) := goodIn_app (goodIn_of _ (by decide +kernel)) ggX12_howMany_X12_ofChildren
theorem dX12_howMany_0 : decode cX12_howMany 0 = .ok (.iload_n 1, 1) := by decide +kernel
theorem dX12_howMany_1 : decode cX12_howMany 1 = .ok (.tableswitch 122 0 12 #[67, 72, 77, 77, 77, 77, 85, 90, 96, 102, 107, 112, 117], 67) := by decide +kernel
theorem dX12_howMany_68 : decode cX12_howMany 68 = .ok (.aload_n 0, 1) := by decide +kernel
theorem dX12_howMany_69 : decode cX12_howMany 69 = .ok (.getfield 119, 3) := by decide +kernel
theorem dX12_howMany_72 : decode cX12_howMany 72 = .ok (.ireturn, 1) := by decide +kernel
theorem dX12_howMany_73 : decode cX12_howMany 73 = .ok (.aload_n 0, 1) := by decide +kernel
theorem dX12_howMany_74 : decode cX12_howMany 74 = .ok (.getfield 122, 3) := by decide +kernel
theorem dX12_howMany_77 : decode cX12_howMany 77 = .ok (.ireturn, 1) := by decide +kernel
theorem dX12_howMany_78 : decode cX12_howMany 78 = .ok (.aload_n 0, 1) := by decide +kernel
theorem dX12_howMany_79 : decode cX12_howMany 79 = .ok (.iload_n 1, 1) := by decide +kernel
theorem dX12_howMany_80 : decode cX12_howMany 80 = .ok (.iconst 2, 1) := by decide +kernel
theorem dX12_howMany_81 : decode cX12_howMany 81 = .ok (.isub, 1) := by decide +kernel
theorem dX12_howMany_82 : decode cX12_howMany 82 = .ok (.invokevirtual 278, 3) := by decide +kernel
theorem dX12_howMany_85 : decode cX12_howMany 85 = .ok (.ireturn, 1) := by decide +kernel
theorem dX12_howMany_86 : decode cX12_howMany 86 = .ok (.aload_n 0, 1) := by decide +kernel
theorem dX12_howMany_87 : decode cX12_howMany 87 = .ok (.getfield 125, 3) := by decide +kernel
theorem dX12_howMany_90 : decode cX12_howMany 90 = .ok (.ireturn, 1) := by decide +kernel
theorem dX12_howMany_91 : decode cX12_howMany 91 = .ok (.aload_n 0, 1) := by decide +kernel
theorem dX12_howMany_92 : decode cX12_howMany 92 = .ok (.iconst 1, 1) := by decide +kernel
theorem dX12_howMany_93 : decode cX12_howMany 93 = .ok (.invokevirtual 281, 3) := by decide +kernel
theorem dX12_howMany_96 : decode cX12_howMany 96 = .ok (.ireturn, 1) := by decide +kernel
theorem dX12_howMany_97 : decode cX12_howMany 97 = .ok (.aload_n 0, 1) := by decide +kernel
theorem dX12_howMany_98 : decode cX12_howMany 98 = .ok (.iconst 0, 1) := by decide +kernel
theorem dX12_howMany_99 : decode cX12_howMany 99 = .ok (.invokevirtual 281, 3) := by decide +kernel
theorem dX12_howMany_102 : decode cX12_howMany 102 = .ok (.ireturn, 1) := by decide +kernel
theorem dX12_howMany_103 : decode cX12_howMany 103 = .ok (.aload_n 0, 1) := by decide +kernel
theorem dX12_howMany_104 : decode cX12_howMany 104 = .ok (.getfield 131, 3) := by decide +kernel
theorem dX12_howMany_107 : decode cX12_howMany 107 = .ok (.ireturn, 1) := by decide +kernel
theorem dX12_howMany_108 : decode cX12_howMany 108 = .ok (.aload_n 0, 1) := by decide +kernel
theorem dX12_howMany_109 : decode cX12_howMany 109 = .ok (.getfield 81, 3) := by decide +kernel
theorem dX12_howMany_112 : decode cX12_howMany 112 = .ok (.ireturn, 1) := by decide +kernel
theorem dX12_howMany_113 : decode cX12_howMany 113 = .ok (.aload_n 0, 1) := by decide +kernel
theorem dX12_howMany_114 : decode cX12_howMany 114 = .ok (.getfield 128, 3) := by decide +kernel
theorem dX12_howMany_117 : decode cX12_howMany 117 = .ok (.ireturn, 1) := by decide +kernel
theorem dX12_howMany_118 : decode cX12_howMany 118 = .ok (.aload_n 0, 1) := by decide +kernel
theorem dX12_howMany_119 : decode cX12_howMany 119 = .ok (.getfield 225, 3) := by decide +kernel
theorem dX12_howMany_122 : decode cX12_howMany 122 = .ok (.ireturn, 1) := by decide +kernel
theorem dX12_howMany_123 : decode cX12_howMany 123 = .ok (.bipush (-102), 2) := by decide +kernel
theorem dX12_howMany_125 : decode cX12_howMany 125 = .ok (.ireturn, 1) := by decide +kernel
set_option maxRecDepth 20000 in
theorem ggX12_count_X12_howMany : GoodIn wsX12_count wsX12_howMany := goodIn_r _ [5, 6, 7, 8, 9, 10, 11, 12, 13, 14, 15, 4, 16, 17, 18, 19, 20, 21, 22, 23, 24, 25, 26, 27, 28, 29, 30, 31, 32, 33, 34, 35, 36, 37, 38, 39, 40, 41, 42, 43, 44, 45, 46, 47, 48, 49, 50, 51, 52, 53, 54, 55, 56, 57, 58, 59, 60, 61, 62, 63, 64, 65, 66, 67, 68, 69, 70, 71, 72, 73, 74, 75, 76, 77, 78, 79, 80, 81, 82, 83, 84, 85, 86, 87, 88, 89, 90, 91, 92, 93, 94, 95, 96, 97, 98, 99, 100, 101, 102, 103, 104, 105] (by decide +kernel) (by decide +kernel)
set_option maxRecDepth 20000 in
theorem gX12_count_X12_howMany : GoodIn wsX12_count (wsV RX12 285 RX12 yX12_howMany wsX12_howMany) := goodIn_app (goodIn_of _ (by decide +kernel)) ggX12_count_X12_howMany
theorem dX12_count_0 : decode cX12_count 0 = .ok (.aload_n 0, 1) := by decide +kernel
theorem dX12_count_1 : decode cX12_count 1 = .ok (.iload_n 1, 1) := by decide +kernel
theorem dX12_count_2 : decode cX12_count 2 = .ok (.invokevirtual 285, 3) := by decide +kernel
theorem dX12_count_5 : decode cX12_count 5 = .ok (.ireturn, 1) := by decide +kernel
theorem dX12_mix_0 : decode cX12_mix 0 = .ok (.aload_n 0, 1) := by decide +kernel
theorem dX12_mix_1 : decode cX12_mix 1 = .ok (.ldc2_w 288, 3) := by decide +kernel
theorem dX12_mix_4 : decode cX12_mix 4 = .ok (.aload_n 0, 1) := by decide +kernel
theorem dX12_mix_5 : decode cX12_mix 5 = .ok (.getfield 290, 3) := by decide +kernel
theorem dX12_mix_8 : decode cX12_mix 8 = .ok (.lmul, 1) := by decide +kernel
theorem dX12_mix_9 : decode cX12_mix 9 = .ok (.lload_n 1, 1) := by decide +kernel
theorem dX12_mix_10 : decode cX12_mix 10 = .ok (.ladd, 1) := by decide +kernel
theorem dX12_mix_11 : decode cX12_mix 11 = .ok (.putfield 290, 3) := by decide +kernel
theorem dX12_mix_14 : decode cX12_mix 14 = .ok (.return_, 1) := by decide +kernel
set_option maxRecDepth 20000 in
theorem ggX12_mixChild_X12_childNow : GoodIn wsX12_mixChild wsX12_childNow := goodIn_r _ [5, 6, 7, 8, 9, 10, 4, 11, 12, 13, 14, 15, 76, 77, 78, 79, 80, 81, 82, 83, 84, 85, 86, 87, 88, 89, 90, 91, 92, 93, 94, 95, 96, 97, 98, 99, 100, 101, 102, 103, 104, 105, 106, 107, 108, 109, 110, 111, 112, 113] (by decide +kernel) (by decide +kernel)
set_option maxRecDepth 20000 in
theorem gX12_mixChild_X12_childNow : GoodIn wsX12_mixChild (wsV RX12 159 RX12 yX12_childNow wsX12_childNow) := goodIn_app (goodIn_of _ (by decide +kernel)) ggX12_mixChild_X12_childNow
set_option maxRecDepth 20000 in
theorem ggX12_mixChild_X12_mix : GoodIn wsX12_mixChild wsX12_mix := goodIn_r _ [19, 20, 21, 76, 77, 78, 79, 80, 81, 82, 83, 84, 85, 86, 87, 88, 89, 90, 91, 92, 93, 94, 95, 96, 97, 98, 99, 100, 101, 102, 103, 104, 105, 106, 107, 108, 109, 110, 111, 112, 113] (by decide +kernel) (by decide +kernel)
set_option maxRecDepth 20000 in
theorem gX12_mixChild_X12_mix : GoodIn wsX12_mixChild (wsV RX12 293 RX12 yX12_mix wsX12_mix) := goodIn_app (goodIn_of _ (by decide +kernel)) ggX12_mixChild_X12_mix
set_option maxRecDepth 20000 in
theorem ggX12_mixChild_X12_planNow : GoodIn wsX12_mixChild wsX12_planNow := goodIn_r _ [25, 26, 27, 28, 29, 30, 4, 31, 32, 33, 34, 35, 36, 37, 38, 39, 40, 41, 42, 43, 44, 45, 46, 47, 48, 49, 50, 8, 9, 10, 11, 6, 51, 52, 53, 54, 55, 56, 57, 58, 59, 60, 61, 62, 63, 64, 65, 66, 67, 68, 69, 70, 71, 72, 73, 74, 75, 76, 77, 78, 79, 80, 81, 82, 83, 84, 85, 86, 87, 88, 89, 90, 91, 92, 93, 94, 95, 96, 97, 98, 99, 100, 101, 102, 103, 104, 105, 106, 107, 108, 109, 110, 111, 112, 113] (by decide +kernel) (by decide +kernel)
set_option maxRecDepth 20000 in
theorem gX12_mixChild_X12_planNow : GoodIn wsX12_mixChild (wsV RX12 196 RX12 yX12_planNow wsX12_planNow) := goodIn_app (goodIn_of _ (by decide +kernel)) ggX12_mixChild_X12_planNow
theorem dX12_mixChild_0 : decode cX12_mixChild 0 = .ok (.iconst 0, 1) := by decide +kernel
theorem dX12_mixChild_1 : decode cX12_mixChild 1 = .ok (.istore_n 2, 1) := by decide +kernel
theorem dX12_mixChild_2 : decode cX12_mixChild 2 = .ok (.iload_n 2, 1) := by decide +kernel
theorem dX12_mixChild_3 : decode cX12_mixChild 3 = .ok (.bipush 14, 2) := by decide +kernel
theorem dX12_mixChild_5 : decode cX12_mixChild 5 = .ok (.if_icmp .ge 31, 3) := by decide +kernel
theorem dX12_mixChild_8 : decode cX12_mixChild 8 = .ok (.iload_n 2, 1) := by decide +kernel
theorem dX12_mixChild_9 : decode cX12_mixChild 9 = .ok (.iconst 5, 1) := by decide +kernel
theorem dX12_mixChild_10 : decode cX12_mixChild 10 = .ok (.if_icmp .lt 9, 3) := by decide +kernel
theorem dX12_mixChild_13 : decode cX12_mixChild 13 = .ok (.iload_n 2, 1) := by decide +kernel
theorem dX12_mixChild_14 : decode cX12_mixChild 14 = .ok (.bipush 10, 2) := by decide +kernel
theorem dX12_mixChild_16 : decode cX12_mixChild 16 = .ok (.if_icmp .le 14, 3) := by decide +kernel
theorem dX12_mixChild_19 : decode cX12_mixChild 19 = .ok (.aload_n 0, 1) := by decide +kernel
theorem dX12_mixChild_20 : decode cX12_mixChild 20 = .ok (.aload_n 0, 1) := by decide +kernel
theorem dX12_mixChild_21 : decode cX12_mixChild 21 = .ok (.iload_n 1, 1) := by decide +kernel
theorem dX12_mixChild_22 : decode cX12_mixChild 22 = .ok (.iload_n 2, 1) := by decide +kernel
theorem dX12_mixChild_23 : decode cX12_mixChild 23 = .ok (.invokevirtual 159, 3) := by decide +kernel
theorem dX12_mixChild_26 : decode cX12_mixChild 26 = .ok (.i2l, 1) := by decide +kernel
theorem dX12_mixChild_27 : decode cX12_mixChild 27 = .ok (.invokevirtual 293, 3) := by decide +kernel
theorem dX12_mixChild_30 : decode cX12_mixChild 30 = .ok (.iinc 2 1, 3) := by decide +kernel
theorem dX12_mixChild_33 : decode cX12_mixChild 33 = .ok (.goto (-31), 3) := by decide +kernel
theorem dX12_mixChild_36 : decode cX12_mixChild 36 = .ok (.aload_n 0, 1) := by decide +kernel
theorem dX12_mixChild_37 : decode cX12_mixChild 37 = .ok (.aload_n 0, 1) := by decide +kernel
theorem dX12_mixChild_38 : decode cX12_mixChild 38 = .ok (.iload_n 1, 1) := by decide +kernel
theorem dX12_mixChild_39 : decode cX12_mixChild 39 = .ok (.iconst 2, 1) := by decide +kernel
theorem dX12_mixChild_40 : decode cX12_mixChild 40 = .ok (.iconst 0, 1) := by decide +kernel
theorem dX12_mixChild_41 : decode cX12_mixChild 41 = .ok (.invokevirtual 196, 3) := by decide +kernel
theorem dX12_mixChild_44 : decode cX12_mixChild 44 = .ok (.i2l, 1) := by decide +kernel
theorem dX12_mixChild_45 : decode cX12_mixChild 45 = .ok (.invokevirtual 293, 3) := by decide +kernel
theorem dX12_mixChild_48 : decode cX12_mixChild 48 = .ok (.aload_n 0, 1) := by decide +kernel
theorem dX12_mixChild_49 : decode cX12_mixChild 49 = .ok (.aload_n 0, 1) := by decide +kernel
theorem dX12_mixChild_50 : decode cX12_mixChild 50 = .ok (.iload_n 1, 1) := by decide +kernel
theorem dX12_mixChild_51 : decode cX12_mixChild 51 = .ok (.iconst 2, 1) := by decide +kernel
theorem dX12_mixChild_52 : decode cX12_mixChild 52 = .ok (.bipush 10, 2) := by decide +kernel
theorem dX12_mixChild_54 : decode cX12_mixChild 54 = .ok (.invokevirtual 196, 3) := by decide +kernel
theorem dX12_mixChild_57 : decode cX12_mixChild 57 = .ok (.i2l, 1) := by decide +kernel
theorem dX12_mixChild_58 : decode cX12_mixChild 58 = .ok (.invokevirtual 293, 3) := by decide +kernel
theorem dX12_mixChild_61 : decode cX12_mixChild 61 = .ok (.aload_n 0, 1) := by decide +kernel
theorem dX12_mixChild_62 : decode cX12_mixChild 62 = .ok (.aload_n 0, 1) := by decide +kernel
theorem dX12_mixChild_63 : decode cX12_mixChild 63 = .ok (.iload_n 1, 1) := by decide +kernel
theorem dX12_mixChild_64 : decode cX12_mixChild 64 = .ok (.iconst 2, 1) := by decide +kernel
theorem dX12_mixChild_65 : decode cX12_mixChild 65 = .ok (.bipush 11, 2) := by decide +kernel
theorem dX12_mixChild_67 : decode cX12_mixChild 67 = .ok (.invokevirtual 196, 3) := by decide +kernel
theorem dX12_mixChild_70 : decode cX12_mixChild 70 = .ok (.i2l, 1) := by decide +kernel
theorem dX12_mixChild_71 : decode cX12_mixChild 71 = .ok (.invokevirtual 293, 3) := by decide +kernel
theorem dX12_mixChild_74 : decode cX12_mixChild 74 = .ok (.return_, 1) := by decide +kernel
set_option maxRecDepth 20000 in
theorem ggX12_digest_X12_panNow : GoodIn wsX12_digest wsX12_panNow := goodIn_r _ [11, 12, 13, 14, 15, 16, 17, 18, 19, 20, 10, 21, 22, 23, 24, 25, 26, 27, 28, 29, 30, 31, 32, 33, 34, 35, 36, 37, 38, 39, 40, 41, 42, 43, 44, 45, 140, 141, 142, 143, 144, 145, 146, 147, 148, 149, 150, 151, 152, 153, 154, 155, 156, 157, 158, 159, 160, 161, 162, 163, 164, 165, 166, 167, 168, 169, 170, 171, 172, 173, 174, 175, 176, 177] (by decide +kernel) (by decide +kernel)
set_option maxRecDepth 20000 in
theorem gX12_digest_X12_panNow : GoodIn wsX12_digest (wsV RX12 150 RX12 yX12_panNow wsX12_panNow) := goodIn_app (goodIn_of _ (by decide +kernel)) ggX12_digest_X12_panNow
set_option maxRecDepth 20000 in
theorem ggX12_digest_X12_mix : GoodIn wsX12_digest wsX12_mix := goodIn_r _ [49, 50, 2, 140, 141, 142, 143, 144, 145, 146, 147, 148, 149, 150, 151, 152, 153, 154, 155, 156, 157, 158, 159, 160, 161, 162, 163, 164, 165, 166, 167, 168, 169, 170, 171, 172, 173, 174, 175, 176, 177] (by decide +kernel) (by decide +kernel)
set_option maxRecDepth 20000 in
theorem gX12_digest_X12_mix : GoodIn wsX12_digest (wsV RX12 293 RX12 yX12_mix wsX12_mix) := goodIn_app (goodIn_of _ (by decide +kernel)) ggX12_digest_X12_mix
set_option maxRecDepth 20000 in
theorem ggX12_digest_X12_laterNow : GoodIn wsX12_digest wsX12_laterNow := goodIn_r _ [54, 55, 56, 57, 10, 58, 59, 12, 13, 14, 15, 17, 60, 61, 62, 63, 64, 65, 66, 67, 16, 7, 8, 9, 11, 18, 19, 20, 21, 22, 23, 24, 25, 26, 27, 28, 29, 30, 31, 32, 33, 34, 35, 36, 37, 38, 39, 40, 41, 42, 43, 44, 45, 68, 69, 70, 71, 140, 141, 142, 143, 144, 145, 146, 147, 148, 149, 150, 151, 152, 153, 154, 155, 156, 157, 158, 159, 160, 161, 162, 163, 164, 165, 166, 167, 168, 169, 170, 171, 172, 173, 174, 175, 176, 177] (by decide +kernel) (by decide +kernel)
set_option maxRecDepth 20000 in
theorem gX12_digest_X12_laterNow : GoodIn wsX12_digest (wsV RX12 182 RX12 yX12_laterNow wsX12_laterNow) := goodIn_app (goodIn_of _ (by decide +kernel)) ggX12_digest_X12_laterNow
set_option maxRecDepth 20000 in
theorem ggX12_digest_X12_oddsNow : GoodIn wsX12_digest wsX12_oddsNow := goodIn_r _ [75, 76, 17, 13, 77, 55, 56, 57, 10, 58, 59, 12, 14, 15, 64, 65, 66, 67, 16, 68, 69, 70, 71, 78, 79, 80, 140, 141, 142, 143, 144, 145, 146, 147, 148, 149, 150, 151, 152, 153, 154, 155, 156, 157, 158, 159, 160, 161, 162, 163, 164, 165, 166, 167, 168, 169, 170, 171, 172, 173, 174, 175, 176, 177] (by decide +kernel) (by decide +kernel)
set_option maxRecDepth 20000 in
theorem gX12_digest_X12_oddsNow : GoodIn wsX12_digest (wsV RX12 234 RX12 yX12_oddsNow wsX12_oddsNow) := goodIn_app (goodIn_of _ (by decide +kernel)) ggX12_digest_X12_oddsNow
set_option maxRecDepth 20000 in
theorem ggX12_digest_X12_mixChild : GoodIn wsX12_digest wsX12_mixChild := goodIn_r _ [84, 85, 86, 87, 10, 88, 89, 90, 91, 92, 93, 94, 95, 96, 97, 98, 46, 47, 48, 49, 50, 2, 99, 100, 101, 102, 103, 104, 55, 56, 57, 58, 59, 12, 13, 14, 15, 17, 105, 106, 107, 108, 109, 110, 111, 112, 3, 18, 19, 20, 21, 113, 114, 115, 116, 117, 118, 119, 120, 60, 61, 62, 63, 64, 65, 66, 67, 16, 68, 69, 70, 71, 121, 122, 123, 124, 140, 141, 142, 143, 144, 145, 146, 147, 148, 149, 150, 151, 152, 153, 154, 155, 156, 157, 158, 159, 160, 161, 162, 163, 164, 165, 166, 167, 168, 169, 170, 171, 172, 173, 174, 175, 176, 177] (by decide +kernel) (by decide +kernel)
set_option maxRecDepth 20000 in
theorem gX12_digest_X12_mixChild : GoodIn wsX12_digest (wsV RX12 299 RX12 yX12_mixChild wsX12_mixChild) := goodIn_app (goodIn_of _ (by decide +kernel)) ggX12_digest_X12_mixChild
set_option maxRecDepth 20000 in
theorem ggX12_digest_X12_howMany : GoodIn wsX12_digest wsX12_howMany := goodIn_r _ [128, 3, 4, 129, 26, 5, 130, 131, 132, 133, 134, 10, 135, 7, 8, 9, 11, 12, 13, 14, 15, 16, 17, 18, 19, 20, 21, 22, 23, 24, 25, 27, 28, 29, 30, 31, 32, 33, 34, 35, 36, 37, 38, 39, 40, 41, 42, 43, 44, 45, 136, 137, 138, 139, 90, 95, 96, 97, 98, 91, 92, 93, 94, 89, 140, 141, 142, 143, 144, 145, 146, 147, 148, 149, 150, 151, 152, 153, 154, 155, 156, 157, 158, 159, 160, 161, 162, 163, 164, 165, 166, 167, 168, 169, 170, 171, 172, 173, 174, 175, 176, 177] (by decide +kernel) (by decide +kernel)
set_option maxRecDepth 20000 in
theorem gX12_digest_X12_howMany : GoodIn wsX12_digest (wsV RX12 285 RX12 yX12_howMany wsX12_howMany) := goodIn_app (goodIn_of _ (by decide +kernel)) ggX12_digest_X12_howMany
theorem dX12_digest_0 : decode cX12_digest 0 = .ok (.aload_n 0, 1) := by decide +kernel
theorem dX12_digest_1 : decode cX12_digest 1 = .ok (.ldc2_w 297, 3) := by decide +kernel
theorem dX12_digest_4 : decode cX12_digest 4 = .ok (.putfield 290, 3) := by decide +kernel
theorem dX12_digest_7 : decode cX12_digest 7 = .ok (.iconst 0, 1) := by decide +kernel
theorem dX12_digest_8 : decode cX12_digest 8 = .ok (.istore_n 1, 1) := by decide +kernel
theorem dX12_digest_9 : decode cX12_digest 9 = .ok (.iload_n 1, 1) := by decide +kernel
theorem dX12_digest_10 : decode cX12_digest 10 = .ok (.aload_n 0, 1) := by decide +kernel
theorem dX12_digest_11 : decode cX12_digest 11 = .ok (.getfield 119, 3) := by decide +kernel
theorem dX12_digest_14 : decode cX12_digest 14 = .ok (.if_icmp .ge 86, 3) := by decide +kernel
theorem dX12_digest_17 : decode cX12_digest 17 = .ok (.iconst 0, 1) := by decide +kernel
theorem dX12_digest_18 : decode cX12_digest 18 = .ok (.istore_n 2, 1) := by decide +kernel
theorem dX12_digest_19 : decode cX12_digest 19 = .ok (.iload_n 2, 1) := by decide +kernel
theorem dX12_digest_20 : decode cX12_digest 20 = .ok (.bipush 9, 2) := by decide +kernel
theorem dX12_digest_22 : decode cX12_digest 22 = .ok (.if_icmp .ge 20, 3) := by decide +kernel
theorem dX12_digest_25 : decode cX12_digest 25 = .ok (.aload_n 0, 1) := by decide +kernel
theorem dX12_digest_26 : decode cX12_digest 26 = .ok (.aload_n 0, 1) := by decide +kernel
theorem dX12_digest_27 : decode cX12_digest 27 = .ok (.iload_n 1, 1) := by decide +kernel
theorem dX12_digest_28 : decode cX12_digest 28 = .ok (.iload_n 2, 1) := by decide +kernel
theorem dX12_digest_29 : decode cX12_digest 29 = .ok (.invokevirtual 150, 3) := by decide +kernel
theorem dX12_digest_32 : decode cX12_digest 32 = .ok (.i2l, 1) := by decide +kernel
theorem dX12_digest_33 : decode cX12_digest 33 = .ok (.invokevirtual 293, 3) := by decide +kernel
theorem dX12_digest_36 : decode cX12_digest 36 = .ok (.iinc 2 1, 3) := by decide +kernel
theorem dX12_digest_39 : decode cX12_digest 39 = .ok (.goto (-20), 3) := by decide +kernel
theorem dX12_digest_42 : decode cX12_digest 42 = .ok (.iconst 0, 1) := by decide +kernel
theorem dX12_digest_43 : decode cX12_digest 43 = .ok (.istore_n 2, 1) := by decide +kernel
theorem dX12_digest_44 : decode cX12_digest 44 = .ok (.iload_n 2, 1) := by decide +kernel
theorem dX12_digest_45 : decode cX12_digest 45 = .ok (.iconst 4, 1) := by decide +kernel
theorem dX12_digest_46 : decode cX12_digest 46 = .ok (.if_icmp .ge 22, 3) := by decide +kernel
theorem dX12_digest_49 : decode cX12_digest 49 = .ok (.aload_n 0, 1) := by decide +kernel
theorem dX12_digest_50 : decode cX12_digest 50 = .ok (.aload_n 0, 1) := by decide +kernel
theorem dX12_digest_51 : decode cX12_digest 51 = .ok (.iload_n 1, 1) := by decide +kernel
theorem dX12_digest_52 : decode cX12_digest 52 = .ok (.bipush 7, 2) := by decide +kernel
theorem dX12_digest_54 : decode cX12_digest 54 = .ok (.iload_n 2, 1) := by decide +kernel
theorem dX12_digest_55 : decode cX12_digest 55 = .ok (.invokevirtual 182, 3) := by decide +kernel
theorem dX12_digest_58 : decode cX12_digest 58 = .ok (.i2l, 1) := by decide +kernel
theorem dX12_digest_59 : decode cX12_digest 59 = .ok (.invokevirtual 293, 3) := by decide +kernel
theorem dX12_digest_62 : decode cX12_digest 62 = .ok (.iinc 2 1, 3) := by decide +kernel
theorem dX12_digest_65 : decode cX12_digest 65 = .ok (.goto (-21), 3) := by decide +kernel
theorem dX12_digest_68 : decode cX12_digest 68 = .ok (.aload_n 0, 1) := by decide +kernel
theorem dX12_digest_69 : decode cX12_digest 69 = .ok (.aload_n 0, 1) := by decide +kernel
theorem dX12_digest_70 : decode cX12_digest 70 = .ok (.iload_n 1, 1) := by decide +kernel
theorem dX12_digest_71 : decode cX12_digest 71 = .ok (.iconst 4, 1) := by decide +kernel
theorem dX12_digest_72 : decode cX12_digest 72 = .ok (.iconst 5, 1) := by decide +kernel
theorem dX12_digest_73 : decode cX12_digest 73 = .ok (.iconst 0, 1) := by decide +kernel
theorem dX12_digest_74 : decode cX12_digest 74 = .ok (.invokevirtual 234, 3) := by decide +kernel
theorem dX12_digest_77 : decode cX12_digest 77 = .ok (.i2l, 1) := by decide +kernel
theorem dX12_digest_78 : decode cX12_digest 78 = .ok (.invokevirtual 293, 3) := by decide +kernel
theorem dX12_digest_81 : decode cX12_digest 81 = .ok (.aload_n 0, 1) := by decide +kernel
theorem dX12_digest_82 : decode cX12_digest 82 = .ok (.aload_n 0, 1) := by decide +kernel
theorem dX12_digest_83 : decode cX12_digest 83 = .ok (.iload_n 1, 1) := by decide +kernel
theorem dX12_digest_84 : decode cX12_digest 84 = .ok (.iconst 4, 1) := by decide +kernel
theorem dX12_digest_85 : decode cX12_digest 85 = .ok (.iconst 5, 1) := by decide +kernel
theorem dX12_digest_86 : decode cX12_digest 86 = .ok (.iconst 1, 1) := by decide +kernel
theorem dX12_digest_87 : decode cX12_digest 87 = .ok (.invokevirtual 234, 3) := by decide +kernel
theorem dX12_digest_90 : decode cX12_digest 90 = .ok (.i2l, 1) := by decide +kernel
theorem dX12_digest_91 : decode cX12_digest 91 = .ok (.invokevirtual 293, 3) := by decide +kernel
theorem dX12_digest_94 : decode cX12_digest 94 = .ok (.iinc 1 1, 3) := by decide +kernel
theorem dX12_digest_97 : decode cX12_digest 97 = .ok (.goto (-88), 3) := by decide +kernel
theorem dX12_digest_100 : decode cX12_digest 100 = .ok (.iconst 0, 1) := by decide +kernel
theorem dX12_digest_101 : decode cX12_digest 101 = .ok (.istore_n 1, 1) := by decide +kernel
theorem dX12_digest_102 : decode cX12_digest 102 = .ok (.iload_n 1, 1) := by decide +kernel
theorem dX12_digest_103 : decode cX12_digest 103 = .ok (.aload_n 0, 1) := by decide +kernel
theorem dX12_digest_104 : decode cX12_digest 104 = .ok (.getfield 122, 3) := by decide +kernel
theorem dX12_digest_107 : decode cX12_digest 107 = .ok (.if_icmp .ge 14, 3) := by decide +kernel
theorem dX12_digest_110 : decode cX12_digest 110 = .ok (.aload_n 0, 1) := by decide +kernel
theorem dX12_digest_111 : decode cX12_digest 111 = .ok (.iload_n 1, 1) := by decide +kernel
theorem dX12_digest_112 : decode cX12_digest 112 = .ok (.invokevirtual 299, 3) := by decide +kernel
theorem dX12_digest_115 : decode cX12_digest 115 = .ok (.iinc 1 1, 3) := by decide +kernel
theorem dX12_digest_118 : decode cX12_digest 118 = .ok (.goto (-16), 3) := by decide +kernel
theorem dX12_digest_121 : decode cX12_digest 121 = .ok (.iconst 0, 1) := by decide +kernel
theorem dX12_digest_122 : decode cX12_digest 122 = .ok (.istore_n 1, 1) := by decide +kernel
theorem dX12_digest_123 : decode cX12_digest 123 = .ok (.iload_n 1, 1) := by decide +kernel
theorem dX12_digest_124 : decode cX12_digest 124 = .ok (.aload_n 0, 1) := by decide +kernel
theorem dX12_digest_125 : decode cX12_digest 125 = .ok (.getfield 81, 3) := by decide +kernel
theorem dX12_digest_128 : decode cX12_digest 128 = .ok (.if_icmp .ge 20, 3) := by decide +kernel
theorem dX12_digest_131 : decode cX12_digest 131 = .ok (.aload_n 0, 1) := by decide +kernel
theorem dX12_digest_132 : decode cX12_digest 132 = .ok (.aload_n 0, 1) := by decide +kernel
theorem dX12_digest_133 : decode cX12_digest 133 = .ok (.getfield 43, 3) := by decide +kernel
theorem dX12_digest_136 : decode cX12_digest 136 = .ok (.iload_n 1, 1) := by decide +kernel
theorem dX12_digest_137 : decode cX12_digest 137 = .ok (.baload, 1) := by decide +kernel
theorem dX12_digest_138 : decode cX12_digest 138 = .ok (.i2l, 1) := by decide +kernel
theorem dX12_digest_139 : decode cX12_digest 139 = .ok (.invokevirtual 293, 3) := by decide +kernel
theorem dX12_digest_142 : decode cX12_digest 142 = .ok (.iinc 1 1, 3) := by decide +kernel
theorem dX12_digest_145 : decode cX12_digest 145 = .ok (.goto (-22), 3) := by decide +kernel
theorem dX12_digest_148 : decode cX12_digest 148 = .ok (.iconst 0, 1) := by decide +kernel
theorem dX12_digest_149 : decode cX12_digest 149 = .ok (.istore_n 1, 1) := by decide +kernel
theorem dX12_digest_150 : decode cX12_digest 150 = .ok (.iload_n 1, 1) := by decide +kernel
theorem dX12_digest_151 : decode cX12_digest 151 = .ok (.bipush 13, 2) := by decide +kernel
theorem dX12_digest_153 : decode cX12_digest 153 = .ok (.if_icmp .ge 19, 3) := by decide +kernel
theorem dX12_digest_156 : decode cX12_digest 156 = .ok (.aload_n 0, 1) := by decide +kernel
theorem dX12_digest_157 : decode cX12_digest 157 = .ok (.aload_n 0, 1) := by decide +kernel
theorem dX12_digest_158 : decode cX12_digest 158 = .ok (.iload_n 1, 1) := by decide +kernel
theorem dX12_digest_159 : decode cX12_digest 159 = .ok (.invokevirtual 285, 3) := by decide +kernel
theorem dX12_digest_162 : decode cX12_digest 162 = .ok (.i2l, 1) := by decide +kernel
theorem dX12_digest_163 : decode cX12_digest 163 = .ok (.invokevirtual 293, 3) := by decide +kernel
theorem dX12_digest_166 : decode cX12_digest 166 = .ok (.iinc 1 1, 3) := by decide +kernel
theorem dX12_digest_169 : decode cX12_digest 169 = .ok (.goto (-19), 3) := by decide +kernel
theorem dX12_digest_172 : decode cX12_digest 172 = .ok (.aload_n 0, 1) := by decide +kernel
theorem dX12_digest_173 : decode cX12_digest 173 = .ok (.getfield 290, 3) := by decide +kernel
theorem dX12_digest_176 : decode cX12_digest 176 = .ok (.lreturn, 1) := by decide +kernel
theorem dJ11_isValidCodePoint_9a6ad_0 : decode cJ11_isValidCodePoint_9a6ad 0 = .ok (.iload_n 0, 1) := by decide +kernel
theorem dJ11_isValidCodePoint_9a6ad_1 : decode cJ11_isValidCodePoint_9a6ad 1 = .ok (.bipush 16, 2) := by decide +kernel
theorem dJ11_isValidCodePoint_9a6ad_3 : decode cJ11_isValidCodePoint_9a6ad 3 = .ok (.iushr, 1) := by decide +kernel
theorem dJ11_isValidCodePoint_9a6ad_4 : decode cJ11_isValidCodePoint_9a6ad 4 = .ok (.istore_n 1, 1) := by decide +kernel
theorem dJ11_isValidCodePoint_9a6ad_5 : decode cJ11_isValidCodePoint_9a6ad 5 = .ok (.iload_n 1, 1) := by decide +kernel
theorem dJ11_isValidCodePoint_9a6ad_6 : decode cJ11_isValidCodePoint_9a6ad 6 = .ok (.bipush 17, 2) := by decide +kernel
theorem dJ11_isValidCodePoint_9a6ad_8 : decode cJ11_isValidCodePoint_9a6ad 8 = .ok (.if_icmp .ge 7, 3) := by decide +kernel
theorem dJ11_isValidCodePoint_9a6ad_11 : decode cJ11_isValidCodePoint_9a6ad 11 = .ok (.iconst 1, 1) := by decide +kernel
theorem dJ11_isValidCodePoint_9a6ad_12 : decode cJ11_isValidCodePoint_9a6ad 12 = .ok (.goto 4, 3) := by decide +kernel
theorem dJ11_isValidCodePoint_9a6ad_15 : decode cJ11_isValidCodePoint_9a6ad 15 = .ok (.iconst 0, 1) := by decide +kernel
theorem dJ11_isValidCodePoint_9a6ad_16 : decode cJ11_isValidCodePoint_9a6ad 16 = .ok (.ireturn, 1) := by decide +kernel
theorem dJ11_highSurrogate_5068e_0 : decode cJ11_highSurrogate_5068e 0 = .ok (.iload_n 0, 1) := by decide +kernel
theorem dJ11_highSurrogate_5068e_1 : decode cJ11_highSurrogate_5068e 1 = .ok (.bipush 10, 2) := by decide +kernel
theorem dJ11_highSurrogate_5068e_3 : decode cJ11_highSurrogate_5068e 3 = .ok (.iushr, 1) := by decide +kernel
theorem dJ11_highSurrogate_5068e_4 : decode cJ11_highSurrogate_5068e 4 = .ok (.ldc 110, 2) := by decide +kernel
theorem dJ11_highSurrogate_5068e_6 : decode cJ11_highSurrogate_5068e 6 = .ok (.iadd, 1) := by decide +kernel
theorem dJ11_highSurrogate_5068e_7 : decode cJ11_highSurrogate_5068e 7 = .ok (.i2c, 1) := by decide +kernel
theorem dJ11_highSurrogate_5068e_8 : decode cJ11_highSurrogate_5068e 8 = .ok (.ireturn, 1) := by decide +kernel
theorem dJ11_lowSurrogate_5068e_0 : decode cJ11_lowSurrogate_5068e 0 = .ok (.iload_n 0, 1) := by decide +kernel
theorem dJ11_lowSurrogate_5068e_1 : decode cJ11_lowSurrogate_5068e 1 = .ok (.sipush 1023, 3) := by decide +kernel
theorem dJ11_lowSurrogate_5068e_4 : decode cJ11_lowSurrogate_5068e 4 = .ok (.iand, 1) := by decide +kernel
theorem dJ11_lowSurrogate_5068e_5 : decode cJ11_lowSurrogate_5068e 5 = .ok (.ldc 76, 2) := by decide +kernel
theorem dJ11_lowSurrogate_5068e_7 : decode cJ11_lowSurrogate_5068e 7 = .ok (.iadd, 1) := by decide +kernel
theorem dJ11_lowSurrogate_5068e_8 : decode cJ11_lowSurrogate_5068e 8 = .ok (.i2c, 1) := by decide +kernel
theorem dJ11_lowSurrogate_5068e_9 : decode cJ11_lowSurrogate_5068e 9 = .ok (.ireturn, 1) := by decide +kernel
theorem dJ6_bitCount_0f7a4_0 : decode cJ6_bitCount_0f7a4 0 = .ok (.iload_n 0, 1) := by decide +kernel
theorem dJ6_bitCount_0f7a4_1 : decode cJ6_bitCount_0f7a4 1 = .ok (.iload_n 0, 1) := by decide +kernel
theorem dJ6_bitCount_0f7a4_2 : decode cJ6_bitCount_0f7a4 2 = .ok (.iconst 1, 1) := by decide +kernel
theorem dJ6_bitCount_0f7a4_3 : decode cJ6_bitCount_0f7a4 3 = .ok (.iushr, 1) := by decide +kernel
theorem dJ6_bitCount_0f7a4_4 : decode cJ6_bitCount_0f7a4 4 = .ok (.ldc_w 265, 3) := by decide +kernel
theorem dJ6_bitCount_0f7a4_7 : decode cJ6_bitCount_0f7a4 7 = .ok (.iand, 1) := by decide +kernel
theorem dJ6_bitCount_0f7a4_8 : decode cJ6_bitCount_0f7a4 8 = .ok (.isub, 1) := by decide +kernel
theorem dJ6_bitCount_0f7a4_9 : decode cJ6_bitCount_0f7a4 9 = .ok (.istore_n 0, 1) := by decide +kernel
theorem dJ6_bitCount_0f7a4_10 : decode cJ6_bitCount_0f7a4 10 = .ok (.iload_n 0, 1) := by decide +kernel
theorem dJ6_bitCount_0f7a4_11 : decode cJ6_bitCount_0f7a4 11 = .ok (.ldc_w 266, 3) := by decide +kernel
theorem dJ6_bitCount_0f7a4_14 : decode cJ6_bitCount_0f7a4 14 = .ok (.iand, 1) := by decide +kernel
theorem dJ6_bitCount_0f7a4_15 : decode cJ6_bitCount_0f7a4 15 = .ok (.iload_n 0, 1) := by decide +kernel
theorem dJ6_bitCount_0f7a4_16 : decode cJ6_bitCount_0f7a4 16 = .ok (.iconst 2, 1) := by decide +kernel
theorem dJ6_bitCount_0f7a4_17 : decode cJ6_bitCount_0f7a4 17 = .ok (.iushr, 1) := by decide +kernel
theorem dJ6_bitCount_0f7a4_18 : decode cJ6_bitCount_0f7a4 18 = .ok (.ldc_w 266, 3) := by decide +kernel
theorem dJ6_bitCount_0f7a4_21 : decode cJ6_bitCount_0f7a4 21 = .ok (.iand, 1) := by decide +kernel
theorem dJ6_bitCount_0f7a4_22 : decode cJ6_bitCount_0f7a4 22 = .ok (.iadd, 1) := by decide +kernel
theorem dJ6_bitCount_0f7a4_23 : decode cJ6_bitCount_0f7a4 23 = .ok (.istore_n 0, 1) := by decide +kernel
theorem dJ6_bitCount_0f7a4_24 : decode cJ6_bitCount_0f7a4 24 = .ok (.iload_n 0, 1) := by decide +kernel
theorem dJ6_bitCount_0f7a4_25 : decode cJ6_bitCount_0f7a4 25 = .ok (.iload_n 0, 1) := by decide +kernel
theorem dJ6_bitCount_0f7a4_26 : decode cJ6_bitCount_0f7a4 26 = .ok (.iconst 4, 1) := by decide +kernel
theorem dJ6_bitCount_0f7a4_27 : decode cJ6_bitCount_0f7a4 27 = .ok (.iushr, 1) := by decide +kernel
theorem dJ6_bitCount_0f7a4_28 : decode cJ6_bitCount_0f7a4 28 = .ok (.iadd, 1) := by decide +kernel
theorem dJ6_bitCount_0f7a4_29 : decode cJ6_bitCount_0f7a4 29 = .ok (.ldc_w 267, 3) := by decide +kernel
theorem dJ6_bitCount_0f7a4_32 : decode cJ6_bitCount_0f7a4 32 = .ok (.iand, 1) := by decide +kernel
theorem dJ6_bitCount_0f7a4_33 : decode cJ6_bitCount_0f7a4 33 = .ok (.istore_n 0, 1) := by decide +kernel
theorem dJ6_bitCount_0f7a4_34 : decode cJ6_bitCount_0f7a4 34 = .ok (.iload_n 0, 1) := by decide +kernel
theorem dJ6_bitCount_0f7a4_35 : decode cJ6_bitCount_0f7a4 35 = .ok (.iload_n 0, 1) := by decide +kernel
theorem dJ6_bitCount_0f7a4_36 : decode cJ6_bitCount_0f7a4 36 = .ok (.bipush 8, 2) := by decide +kernel
theorem dJ6_bitCount_0f7a4_38 : decode cJ6_bitCount_0f7a4 38 = .ok (.iushr, 1) := by decide +kernel
theorem dJ6_bitCount_0f7a4_39 : decode cJ6_bitCount_0f7a4 39 = .ok (.iadd, 1) := by decide +kernel
theorem dJ6_bitCount_0f7a4_40 : decode cJ6_bitCount_0f7a4 40 = .ok (.istore_n 0, 1) := by decide +kernel
theorem dJ6_bitCount_0f7a4_41 : decode cJ6_bitCount_0f7a4 41 = .ok (.iload_n 0, 1) := by decide +kernel
theorem dJ6_bitCount_0f7a4_42 : decode cJ6_bitCount_0f7a4 42 = .ok (.iload_n 0, 1) := by decide +kernel
theorem dJ6_bitCount_0f7a4_43 : decode cJ6_bitCount_0f7a4 43 = .ok (.bipush 16, 2) := by decide +kernel
theorem dJ6_bitCount_0f7a4_45 : decode cJ6_bitCount_0f7a4 45 = .ok (.iushr, 1) := by decide +kernel
theorem dJ6_bitCount_0f7a4_46 : decode cJ6_bitCount_0f7a4 46 = .ok (.iadd, 1) := by decide +kernel
theorem dJ6_bitCount_0f7a4_47 : decode cJ6_bitCount_0f7a4 47 = .ok (.istore_n 0, 1) := by decide +kernel
theorem dJ6_bitCount_0f7a4_48 : decode cJ6_bitCount_0f7a4 48 = .ok (.iload_n 0, 1) := by decide +kernel
theorem dJ6_bitCount_0f7a4_49 : decode cJ6_bitCount_0f7a4 49 = .ok (.bipush 63, 2) := by decide +kernel
theorem dJ6_bitCount_0f7a4_51 : decode cJ6_bitCount_0f7a4 51 = .ok (.iand, 1) := by decide +kernel
theorem dJ6_bitCount_0f7a4_52 : decode cJ6_bitCount_0f7a4 52 = .ok (.ireturn, 1) := by decide +kernel
theorem dJ9_max_7cf53_0 : decode cJ9_max_7cf53 0 = .ok (.iload_n 0, 1) := by decide +kernel
theorem dJ9_max_7cf53_1 : decode cJ9_max_7cf53 1 = .ok (.iload_n 1, 1) := by decide +kernel
theorem dJ9_max_7cf53_2 : decode cJ9_max_7cf53 2 = .ok (.if_icmp .lt 7, 3) := by decide +kernel
theorem dJ9_max_7cf53_5 : decode cJ9_max_7cf53 5 = .ok (.iload_n 0, 1) := by decide +kernel
theorem dJ9_max_7cf53_6 : decode cJ9_max_7cf53 6 = .ok (.goto 4, 3) := by decide +kernel
theorem dJ9_max_7cf53_9 : decode cJ9_max_7cf53 9 = .ok (.iload_n 1, 1) := by decide +kernel
theorem dJ9_max_7cf53_10 : decode cJ9_max_7cf53 10 = .ok (.ireturn, 1) := by decide +kernel
theorem dJ9_min_7cf53_0 : decode cJ9_min_7cf53 0 = .ok (.iload_n 0, 1) := by decide +kernel
theorem dJ9_min_7cf53_1 : decode cJ9_min_7cf53 1 = .ok (.iload_n 1, 1) := by decide +kernel
theorem dJ9_min_7cf53_2 : decode cJ9_min_7cf53 2 = .ok (.if_icmp .gt 7, 3) := by decide +kernel
theorem dJ9_min_7cf53_5 : decode cJ9_min_7cf53 5 = .ok (.iload_n 0, 1) := by decide +kernel
theorem dJ9_min_7cf53_6 : decode cJ9_min_7cf53 6 = .ok (.goto 4, 3) := by decide +kernel
theorem dJ9_min_7cf53_9 : decode cJ9_min_7cf53 9 = .ok (.iload_n 1, 1) := by decide +kernel
theorem dJ9_min_7cf53_10 : decode cJ9_min_7cf53 10 = .ok (.ireturn, 1) := by decide +kernel
set_option maxRecDepth 20000 in
theorem ggJ0_length_8abf5_J0_coder_7d493 : GoodIn wsJ0_length_8abf5 wsJ0_coder_7d493 := goodIn_r _ [6, 7, 8] (by decide +kernel) (by decide +kernel)
set_option maxRecDepth 20000 in
theorem gJ0_length_8abf5_J0_coder_7d493 : GoodIn wsJ0_length_8abf5 (wsV RJ0 335 RJ0 yJ0_coder_7d493 wsJ0_coder_7d493) := goodIn_app (goodIn_of _ (by decide +kernel)) ggJ0_length_8abf5_J0_coder_7d493
theorem dJ0_length_8abf5_0 : decode cJ0_length_8abf5 0 = .ok (.aload_n 0, 1) := by decide +kernel
theorem dJ0_length_8abf5_1 : decode cJ0_length_8abf5 1 = .ok (.getfield 9, 3) := by decide +kernel
theorem dJ0_length_8abf5_4 : decode cJ0_length_8abf5 4 = .ok (.arraylength, 1) := by decide +kernel
theorem dJ0_length_8abf5_5 : decode cJ0_length_8abf5 5 = .ok (.aload_n 0, 1) := by decide +kernel
theorem dJ0_length_8abf5_6 : decode cJ0_length_8abf5 6 = .ok (.invokevirtual 335, 3) := by decide +kernel
theorem dJ0_length_8abf5_9 : decode cJ0_length_8abf5 9 = .ok (.ishr, 1) := by decide +kernel
theorem dJ0_length_8abf5_10 : decode cJ0_length_8abf5 10 = .ok (.ireturn, 1) := by decide +kernel
set_option maxRecDepth 20000 in
theorem ggJ0_indexOf_0f7a4_J0_indexOf_7cf53 : GoodIn wsJ0_indexOf_0f7a4 wsJ0_indexOf_7cf53 := goodIn_r _ [5, 6, 7, 8, 9, 4, 10, 11, 12, 13, 14, 15, 16, 17, 18, 19, 20, 21, 22, 23, 24, 25, 26, 27, 28, 29, 30, 31, 32, 33, 34, 35, 36, 37, 38, 39, 40, 41, 42, 43, 44, 45, 46, 47, 48, 49, 50, 51, 52, 53, 54, 55, 56, 57, 58, 59, 60, 61, 62, 63, 64, 65, 66, 67, 68, 69, 70, 71, 72, 73, 74, 75, 76, 77, 78, 79, 80, 81, 82, 83, 84, 85] (by decide +kernel) (by decide +kernel)
set_option maxRecDepth 20000 in
theorem gJ0_indexOf_0f7a4_J0_indexOf_7cf53 : GoodIn wsJ0_indexOf_0f7a4 (wsV RJ0 633 RJ0 yJ0_indexOf_7cf53 wsJ0_indexOf_7cf53) := goodIn_app (goodIn_of _ (by decide +kernel)) ggJ0_indexOf_0f7a4_J0_indexOf_7cf53
theorem dJ0_indexOf_0f7a4_0 : decode cJ0_indexOf_0f7a4 0 = .ok (.aload_n 0, 1) := by decide +kernel
theorem dJ0_indexOf_0f7a4_1 : decode cJ0_indexOf_0f7a4 1 = .ok (.iload_n 1, 1) := by decide +kernel
theorem dJ0_indexOf_0f7a4_2 : decode cJ0_indexOf_0f7a4 2 = .ok (.iconst 0, 1) := by decide +kernel
theorem dJ0_indexOf_0f7a4_3 : decode cJ0_indexOf_0f7a4 3 = .ok (.invokevirtual 633, 3) := by decide +kernel
theorem dJ0_indexOf_0f7a4_6 : decode cJ0_indexOf_0f7a4 6 = .ok (.ireturn, 1) := by decide +kernel
set_option maxRecDepth 20000 in
theorem ggJ0_indexOf_7cf53_J0_isLatin1_aae02 : GoodIn wsJ0_indexOf_7cf53 wsJ0_isLatin1_aae02 := goodIn_r _ [6, 7, 8] (by decide +kernel) (by decide +kernel)
set_option maxRecDepth 20000 in
theorem gJ0_indexOf_7cf53_J0_isLatin1_aae02 : GoodIn wsJ0_indexOf_7cf53 (wsV RJ0 492 RJ0 yJ0_isLatin1_aae02 wsJ0_isLatin1_aae02) := goodIn_app (goodIn_of _ (by decide +kernel)) ggJ0_indexOf_7cf53_J0_isLatin1_aae02
set_option maxRecDepth 20000 in
theorem ggJ0_indexOf_7cf53_J0_length_8abf5 : GoodIn wsJ0_indexOf_7cf53 wsJ0_length_8abf5 := goodIn_r _ [12, 1, 13, 14, 15, 5, 16, 7, 8] (by decide +kernel) (by decide +kernel)
set_option maxRecDepth 20000 in
theorem gJ0_indexOf_7cf53_J0_length_8abf5 : GoodIn wsJ0_indexOf_7cf53 (wsV RJ0 505 RJ0 yJ0_length_8abf5 wsJ0_length_8abf5) := goodIn_app (goodIn_of _ (by decide +kernel)) ggJ0_indexOf_7cf53_J0_length_8abf5
set_option maxRecDepth 20000 in
theorem ggJ0_indexOf_7cf53_J1_indexOf_4cfef : GoodIn wsJ0_indexOf_7cf53 wsJ1_indexOf_4cfef := goodIn_r _ [20, 21, 22, 23, 24, 25, 26, 27, 28, 29, 19, 30, 31, 32, 33] (by decide +kernel) (by decide +kernel)
set_option maxRecDepth 20000 in
theorem gJ0_indexOf_7cf53_J1_indexOf_4cfef : GoodIn wsJ0_indexOf_7cf53 (va_wsS RJ0 637 yJ1_indexOf_4cfef wsJ1_indexOf_4cfef) := goodIn_app (goodIn_of _ (by decide +kernel)) ggJ0_indexOf_7cf53_J1_indexOf_4cfef
set_option maxRecDepth 20000 in
theorem ggJ0_indexOf_7cf53_J2_indexOf_4cfef : GoodIn wsJ0_indexOf_7cf53 wsJ2_indexOf_4cfef := goodIn_r _ [37, 38, 22, 23, 24, 39, 26, 27, 40, 41, 42, 36, 43, 44, 45, 46, 47, 48, 49, 50, 51, 5, 52, 53, 54, 55, 56, 57, 58, 59, 60, 61, 62, 63, 64, 65, 66, 67, 68, 69, 70, 71, 72, 73, 74, 75, 76, 77, 78, 79, 80, 81] (by decide +kernel) (by decide +kernel)
set_option maxRecDepth 20000 in
theorem gJ0_indexOf_7cf53_J2_indexOf_4cfef : GoodIn wsJ0_indexOf_7cf53 (va_wsS RJ0 640 yJ2_indexOf_4cfef wsJ2_indexOf_4cfef) := goodIn_app (goodIn_of _ (by decide +kernel)) ggJ0_indexOf_7cf53_J2_indexOf_4cfef
