theorem dX11_digest_46 : decode cX11_digest 46 = .ok (.iconst 0, 1) := by decide +kernel
theorem dX11_digest_47 : decode cX11_digest 47 = .ok (.istore 4, 2) := by decide +kernel
theorem dX11_digest_49 : decode cX11_digest 49 = .ok (.iload 4, 2) := by decide +kernel
theorem dX11_digest_51 : decode cX11_digest 51 = .ok (.iconst 3, 1) := by decide +kernel
theorem dX11_digest_52 : decode cX11_digest 52 = .ok (.if_icmp .gt 24, 3) := by decide +kernel
theorem dX11_digest_55 : decode cX11_digest 55 = .ok (.lload_n 1, 1) := by decide +kernel
theorem dX11_digest_56 : decode cX11_digest 56 = .ok (.aload_n 0, 1) := by decide +kernel
theorem dX11_digest_57 : decode cX11_digest 57 = .ok (.iload_n 3, 1) := by decide +kernel
theorem dX11_digest_58 : decode cX11_digest 58 = .ok (.bipush 7, 2) := by decide +kernel
theorem dX11_digest_60 : decode cX11_digest 60 = .ok (.iload 4, 2) := by decide +kernel
theorem dX11_digest_62 : decode cX11_digest 62 = .ok (.invokevirtual 335, 3) := by decide +kernel
theorem dX11_digest_65 : decode cX11_digest 65 = .ok (.i2l, 1) := by decide +kernel
theorem dX11_digest_66 : decode cX11_digest 66 = .ok (.invokestatic 331, 3) := by decide +kernel
theorem dX11_digest_69 : decode cX11_digest 69 = .ok (.lstore_n 1, 1) := by decide +kernel
theorem dX11_digest_70 : decode cX11_digest 70 = .ok (.iinc 4 1, 3) := by decide +kernel
theorem dX11_digest_73 : decode cX11_digest 73 = .ok (.goto (-24), 3) := by decide +kernel
theorem dX11_digest_76 : decode cX11_digest 76 = .ok (.lload_n 1, 1) := by decide +kernel
theorem dX11_digest_77 : decode cX11_digest 77 = .ok (.aload_n 0, 1) := by decide +kernel
theorem dX11_digest_78 : decode cX11_digest 78 = .ok (.iload_n 3, 1) := by decide +kernel
theorem dX11_digest_79 : decode cX11_digest 79 = .ok (.iconst 4, 1) := by decide +kernel
theorem dX11_digest_80 : decode cX11_digest 80 = .ok (.iconst 5, 1) := by decide +kernel
theorem dX11_digest_81 : decode cX11_digest 81 = .ok (.iconst 0, 1) := by decide +kernel
theorem dX11_digest_82 : decode cX11_digest 82 = .ok (.invokevirtual 339, 3) := by decide +kernel
theorem dX11_digest_85 : decode cX11_digest 85 = .ok (.i2l, 1) := by decide +kernel
theorem dX11_digest_86 : decode cX11_digest 86 = .ok (.invokestatic 331, 3) := by decide +kernel
theorem dX11_digest_89 : decode cX11_digest 89 = .ok (.lstore_n 1, 1) := by decide +kernel
theorem dX11_digest_90 : decode cX11_digest 90 = .ok (.lload_n 1, 1) := by decide +kernel
theorem dX11_digest_91 : decode cX11_digest 91 = .ok (.aload_n 0, 1) := by decide +kernel
theorem dX11_digest_92 : decode cX11_digest 92 = .ok (.iload_n 3, 1) := by decide +kernel
theorem dX11_digest_93 : decode cX11_digest 93 = .ok (.iconst 4, 1) := by decide +kernel
theorem dX11_digest_94 : decode cX11_digest 94 = .ok (.iconst 5, 1) := by decide +kernel
theorem dX11_digest_95 : decode cX11_digest 95 = .ok (.iconst 1, 1) := by decide +kernel
theorem dX11_digest_96 : decode cX11_digest 96 = .ok (.invokevirtual 339, 3) := by decide +kernel
theorem dX11_digest_99 : decode cX11_digest 99 = .ok (.i2l, 1) := by decide +kernel
theorem dX11_digest_100 : decode cX11_digest 100 = .ok (.invokestatic 331, 3) := by decide +kernel
theorem dX11_digest_103 : decode cX11_digest 103 = .ok (.lstore_n 1, 1) := by decide +kernel
theorem dX11_digest_104 : decode cX11_digest 104 = .ok (.iinc 3 1, 3) := by decide +kernel
theorem dX11_digest_107 : decode cX11_digest 107 = .ok (.goto (-101), 3) := by decide +kernel
theorem dX11_digest_110 : decode cX11_digest 110 = .ok (.iconst 0, 1) := by decide +kernel
theorem dX11_digest_111 : decode cX11_digest 111 = .ok (.istore_n 3, 1) := by decide +kernel
theorem dX11_digest_112 : decode cX11_digest 112 = .ok (.iload_n 3, 1) := by decide +kernel
theorem dX11_digest_113 : decode cX11_digest 113 = .ok (.aload_n 0, 1) := by decide +kernel
theorem dX11_digest_114 : decode cX11_digest 114 = .ok (.getfield 105, 3) := by decide +kernel
theorem dX11_digest_117 : decode cX11_digest 117 = .ok (.if_icmp .ge 108, 3) := by decide +kernel
theorem dX11_digest_120 : decode cX11_digest 120 = .ok (.iconst 0, 1) := by decide +kernel
theorem dX11_digest_121 : decode cX11_digest 121 = .ok (.istore 4, 2) := by decide +kernel
theorem dX11_digest_123 : decode cX11_digest 123 = .ok (.iload 4, 2) := by decide +kernel
theorem dX11_digest_125 : decode cX11_digest 125 = .ok (.iconst 4, 1) := by decide +kernel
theorem dX11_digest_126 : decode cX11_digest 126 = .ok (.if_icmp .gt 22, 3) := by decide +kernel
theorem dX11_digest_129 : decode cX11_digest 129 = .ok (.lload_n 1, 1) := by decide +kernel
theorem dX11_digest_130 : decode cX11_digest 130 = .ok (.aload_n 0, 1) := by decide +kernel
theorem dX11_digest_131 : decode cX11_digest 131 = .ok (.iload_n 3, 1) := by decide +kernel
theorem dX11_digest_132 : decode cX11_digest 132 = .ok (.iload 4, 2) := by decide +kernel
theorem dX11_digest_134 : decode cX11_digest 134 = .ok (.invokevirtual 343, 3) := by decide +kernel
theorem dX11_digest_137 : decode cX11_digest 137 = .ok (.i2l, 1) := by decide +kernel
theorem dX11_digest_138 : decode cX11_digest 138 = .ok (.invokestatic 331, 3) := by decide +kernel
theorem dX11_digest_141 : decode cX11_digest 141 = .ok (.lstore_n 1, 1) := by decide +kernel
theorem dX11_digest_142 : decode cX11_digest 142 = .ok (.iinc 4 1, 3) := by decide +kernel
theorem dX11_digest_145 : decode cX11_digest 145 = .ok (.goto (-22), 3) := by decide +kernel
theorem dX11_digest_148 : decode cX11_digest 148 = .ok (.bipush 11, 2) := by decide +kernel
theorem dX11_digest_150 : decode cX11_digest 150 = .ok (.istore 4, 2) := by decide +kernel
theorem dX11_digest_152 : decode cX11_digest 152 = .ok (.iload 4, 2) := by decide +kernel
theorem dX11_digest_154 : decode cX11_digest 154 = .ok (.bipush 13, 2) := by decide +kernel
theorem dX11_digest_156 : decode cX11_digest 156 = .ok (.if_icmp .gt 22, 3) := by decide +kernel
theorem dX11_digest_159 : decode cX11_digest 159 = .ok (.lload_n 1, 1) := by decide +kernel
theorem dX11_digest_160 : decode cX11_digest 160 = .ok (.aload_n 0, 1) := by decide +kernel
theorem dX11_digest_161 : decode cX11_digest 161 = .ok (.iload_n 3, 1) := by decide +kernel
theorem dX11_digest_162 : decode cX11_digest 162 = .ok (.iload 4, 2) := by decide +kernel
theorem dX11_digest_164 : decode cX11_digest 164 = .ok (.invokevirtual 343, 3) := by decide +kernel
theorem dX11_digest_167 : decode cX11_digest 167 = .ok (.i2l, 1) := by decide +kernel
theorem dX11_digest_168 : decode cX11_digest 168 = .ok (.invokestatic 331, 3) := by decide +kernel
theorem dX11_digest_171 : decode cX11_digest 171 = .ok (.lstore_n 1, 1) := by decide +kernel
theorem dX11_digest_172 : decode cX11_digest 172 = .ok (.iinc 4 1, 3) := by decide +kernel
theorem dX11_digest_175 : decode cX11_digest 175 = .ok (.goto (-23), 3) := by decide +kernel
theorem dX11_digest_178 : decode cX11_digest 178 = .ok (.lload_n 1, 1) := by decide +kernel
theorem dX11_digest_179 : decode cX11_digest 179 = .ok (.aload_n 0, 1) := by decide +kernel
theorem dX11_digest_180 : decode cX11_digest 180 = .ok (.iload_n 3, 1) := by decide +kernel
theorem dX11_digest_181 : decode cX11_digest 181 = .ok (.iconst 2, 1) := by decide +kernel
theorem dX11_digest_182 : decode cX11_digest 182 = .ok (.iconst 0, 1) := by decide +kernel
theorem dX11_digest_183 : decode cX11_digest 183 = .ok (.invokevirtual 346, 3) := by decide +kernel
theorem dX11_digest_186 : decode cX11_digest 186 = .ok (.i2l, 1) := by decide +kernel
theorem dX11_digest_187 : decode cX11_digest 187 = .ok (.invokestatic 331, 3) := by decide +kernel
theorem dX11_digest_190 : decode cX11_digest 190 = .ok (.lstore_n 1, 1) := by decide +kernel
theorem dX11_digest_191 : decode cX11_digest 191 = .ok (.lload_n 1, 1) := by decide +kernel
theorem dX11_digest_192 : decode cX11_digest 192 = .ok (.aload_n 0, 1) := by decide +kernel
theorem dX11_digest_193 : decode cX11_digest 193 = .ok (.iload_n 3, 1) := by decide +kernel
theorem dX11_digest_194 : decode cX11_digest 194 = .ok (.iconst 2, 1) := by decide +kernel
theorem dX11_digest_195 : decode cX11_digest 195 = .ok (.bipush 10, 2) := by decide +kernel
theorem dX11_digest_197 : decode cX11_digest 197 = .ok (.invokevirtual 346, 3) := by decide +kernel
theorem dX11_digest_200 : decode cX11_digest 200 = .ok (.i2l, 1) := by decide +kernel
theorem dX11_digest_201 : decode cX11_digest 201 = .ok (.invokestatic 331, 3) := by decide +kernel
theorem dX11_digest_204 : decode cX11_digest 204 = .ok (.lstore_n 1, 1) := by decide +kernel
theorem dX11_digest_205 : decode cX11_digest 205 = .ok (.lload_n 1, 1) := by decide +kernel
theorem dX11_digest_206 : decode cX11_digest 206 = .ok (.aload_n 0, 1) := by decide +kernel
theorem dX11_digest_207 : decode cX11_digest 207 = .ok (.iload_n 3, 1) := by decide +kernel
theorem dX11_digest_208 : decode cX11_digest 208 = .ok (.iconst 2, 1) := by decide +kernel
theorem dX11_digest_209 : decode cX11_digest 209 = .ok (.bipush 11, 2) := by decide +kernel
theorem dX11_digest_211 : decode cX11_digest 211 = .ok (.invokevirtual 346, 3) := by decide +kernel
theorem dX11_digest_214 : decode cX11_digest 214 = .ok (.i2l, 1) := by decide +kernel
theorem dX11_digest_215 : decode cX11_digest 215 = .ok (.invokestatic 331, 3) := by decide +kernel
theorem dX11_digest_218 : decode cX11_digest 218 = .ok (.lstore_n 1, 1) := by decide +kernel
theorem dX11_digest_219 : decode cX11_digest 219 = .ok (.iinc 3 1, 3) := by decide +kernel
theorem dX11_digest_222 : decode cX11_digest 222 = .ok (.goto (-110), 3) := by decide +kernel
theorem dX11_digest_225 : decode cX11_digest 225 = .ok (.iconst 0, 1) := by decide +kernel
theorem dX11_digest_226 : decode cX11_digest 226 = .ok (.istore_n 3, 1) := by decide +kernel
theorem dX11_digest_227 : decode cX11_digest 227 = .ok (.iload_n 3, 1) := by decide +kernel
theorem dX11_digest_228 : decode cX11_digest 228 = .ok (.aload_n 0, 1) := by decide +kernel
theorem dX11_digest_229 : decode cX11_digest 229 = .ok (.getfield 10, 3) := by decide +kernel
theorem dX11_digest_232 : decode cX11_digest 232 = .ok (.invokevirtual 74, 3) := by decide +kernel
theorem dX11_digest_235 : decode cX11_digest 235 = .ok (.if_icmp .ge 23, 3) := by decide +kernel
theorem dX11_digest_238 : decode cX11_digest 238 = .ok (.lload_n 1, 1) := by decide +kernel
theorem dX11_digest_239 : decode cX11_digest 239 = .ok (.aload_n 0, 1) := by decide +kernel
theorem dX11_digest_240 : decode cX11_digest 240 = .ok (.getfield 10, 3) := by decide +kernel
theorem dX11_digest_243 : decode cX11_digest 243 = .ok (.iload_n 3, 1) := by decide +kernel
theorem dX11_digest_244 : decode cX11_digest 244 = .ok (.invokevirtual 119, 3) := by decide +kernel
theorem dX11_digest_247 : decode cX11_digest 247 = .ok (.i2l, 1) := by decide +kernel
theorem dX11_digest_248 : decode cX11_digest 248 = .ok (.invokestatic 331, 3) := by decide +kernel
theorem dX11_digest_251 : decode cX11_digest 251 = .ok (.lstore_n 1, 1) := by decide +kernel
theorem dX11_digest_252 : decode cX11_digest 252 = .ok (.iinc 3 1, 3) := by decide +kernel
theorem dX11_digest_255 : decode cX11_digest 255 = .ok (.goto (-28), 3) := by decide +kernel
theorem dX11_digest_258 : decode cX11_digest 258 = .ok (.iconst 0, 1) := by decide +kernel
theorem dX11_digest_259 : decode cX11_digest 259 = .ok (.istore_n 3, 1) := by decide +kernel
theorem dX11_digest_260 : decode cX11_digest 260 = .ok (.iload_n 3, 1) := by decide +kernel
theorem dX11_digest_261 : decode cX11_digest 261 = .ok (.bipush 12, 2) := by decide +kernel
theorem dX11_digest_263 : decode cX11_digest 263 = .ok (.if_icmp .gt 20, 3) := by decide +kernel
theorem dX11_digest_266 : decode cX11_digest 266 = .ok (.lload_n 1, 1) := by decide +kernel
theorem dX11_digest_267 : decode cX11_digest 267 = .ok (.aload_n 0, 1) := by decide +kernel
theorem dX11_digest_268 : decode cX11_digest 268 = .ok (.iload_n 3, 1) := by decide +kernel
theorem dX11_digest_269 : decode cX11_digest 269 = .ok (.invokevirtual 349, 3) := by decide +kernel
theorem dX11_digest_272 : decode cX11_digest 272 = .ok (.i2l, 1) := by decide +kernel
theorem dX11_digest_273 : decode cX11_digest 273 = .ok (.invokestatic 331, 3) := by decide +kernel
theorem dX11_digest_276 : decode cX11_digest 276 = .ok (.lstore_n 1, 1) := by decide +kernel
theorem dX11_digest_277 : decode cX11_digest 277 = .ok (.iinc 3 1, 3) := by decide +kernel
theorem dX11_digest_280 : decode cX11_digest 280 = .ok (.goto (-20), 3) := by decide +kernel
theorem dX11_digest_283 : decode cX11_digest 283 = .ok (.lload_n 1, 1) := by decide +kernel
theorem dX11_digest_284 : decode cX11_digest 284 = .ok (.lreturn, 1) := by decide +kernel
theorem dX11_with_0 : decode cX11_with 0 = .ok (.ldc2_w 352, 3) := by decide +kernel
theorem dX11_with_3 : decode cX11_with 3 = .ok (.lload_n 0, 1) := by decide +kernel
theorem dX11_with_4 : decode cX11_with 4 = .ok (.lmul, 1) := by decide +kernel
theorem dX11_with_5 : decode cX11_with 5 = .ok (.lload_n 2, 1) := by decide +kernel
theorem dX11_with_6 : decode cX11_with 6 = .ok (.ladd, 1) := by decide +kernel
theorem dX11_with_7 : decode cX11_with 7 = .ok (.lreturn, 1) := by decide +kernel
theorem dX12_init_0 : decode cX12_init 0 = .ok (.aload_n 0, 1) := by decide +kernel
theorem dX12_init_1 : decode cX12_init 1 = .ok (.invokespecial 1, 3) := by decide +kernel
theorem dX12_init_4 : decode cX12_init 4 = .ok (.aload_n 0, 1) := by decide +kernel
theorem dX12_init_5 : decode cX12_init 5 = .ok (.iconst 3, 1) := by decide +kernel
theorem dX12_init_6 : decode cX12_init 6 = .ok (.newarray .int, 2) := by decide +kernel
theorem dX12_init_8 : decode cX12_init 8 = .ok (.putfield 7, 3) := by decide +kernel
theorem dX12_init_11 : decode cX12_init 11 = .ok (.aload_n 0, 1) := by decide +kernel
theorem dX12_init_12 : decode cX12_init 12 = .ok (.iconst 3, 1) := by decide +kernel
theorem dX12_init_13 : decode cX12_init 13 = .ok (.newarray .int, 2) := by decide +kernel
theorem dX12_init_15 : decode cX12_init 15 = .ok (.putfield 13, 3) := by decide +kernel
theorem dX12_init_18 : decode cX12_init 18 = .ok (.aload_n 0, 1) := by decide +kernel
theorem dX12_init_19 : decode cX12_init 19 = .ok (.iconst 3, 1) := by decide +kernel
theorem dX12_init_20 : decode cX12_init 20 = .ok (.newarray .int, 2) := by decide +kernel
theorem dX12_init_22 : decode cX12_init 22 = .ok (.putfield 16, 3) := by decide +kernel
theorem dX12_init_25 : decode cX12_init 25 = .ok (.aload_n 0, 1) := by decide +kernel
theorem dX12_init_26 : decode cX12_init 26 = .ok (.iconst 3, 1) := by decide +kernel
theorem dX12_init_27 : decode cX12_init 27 = .ok (.newarray .int, 2) := by decide +kernel
theorem dX12_init_29 : decode cX12_init 29 = .ok (.putfield 19, 3) := by decide +kernel
theorem dX12_init_32 : decode cX12_init 32 = .ok (.aload_n 0, 1) := by decide +kernel
theorem dX12_init_33 : decode cX12_init 33 = .ok (.iconst 3, 1) := by decide +kernel
theorem dX12_init_34 : decode cX12_init 34 = .ok (.newarray .int, 2) := by decide +kernel
theorem dX12_init_36 : decode cX12_init 36 = .ok (.putfield 22, 3) := by decide +kernel
theorem dX12_init_39 : decode cX12_init 39 = .ok (.aload_n 0, 1) := by decide +kernel
theorem dX12_init_40 : decode cX12_init 40 = .ok (.iconst 3, 1) := by decide +kernel
theorem dX12_init_41 : decode cX12_init 41 = .ok (.newarray .int, 2) := by decide +kernel
theorem dX12_init_43 : decode cX12_init 43 = .ok (.putfield 25, 3) := by decide +kernel
theorem dX12_init_46 : decode cX12_init 46 = .ok (.aload_n 0, 1) := by decide +kernel
theorem dX12_init_47 : decode cX12_init 47 = .ok (.iconst 5, 1) := by decide +kernel
theorem dX12_init_48 : decode cX12_init 48 = .ok (.newarray .int, 2) := by decide +kernel
theorem dX12_init_50 : decode cX12_init 50 = .ok (.putfield 28, 3) := by decide +kernel
theorem dX12_init_53 : decode cX12_init 53 = .ok (.aload_n 0, 1) := by decide +kernel
theorem dX12_init_54 : decode cX12_init 54 = .ok (.bipush 20, 2) := by decide +kernel
theorem dX12_init_56 : decode cX12_init 56 = .ok (.newarray .int, 2) := by decide +kernel
theorem dX12_init_58 : decode cX12_init 58 = .ok (.putfield 31, 3) := by decide +kernel
theorem dX12_init_61 : decode cX12_init 61 = .ok (.aload_n 0, 1) := by decide +kernel
theorem dX12_init_62 : decode cX12_init 62 = .ok (.bipush 6, 2) := by decide +kernel
theorem dX12_init_64 : decode cX12_init 64 = .ok (.newarray .int, 2) := by decide +kernel
theorem dX12_init_66 : decode cX12_init 66 = .ok (.putfield 34, 3) := by decide +kernel
theorem dX12_init_69 : decode cX12_init 69 = .ok (.aload_n 0, 1) := by decide +kernel
theorem dX12_init_70 : decode cX12_init 70 = .ok (.bipush 6, 2) := by decide +kernel
theorem dX12_init_72 : decode cX12_init 72 = .ok (.newarray .int, 2) := by decide +kernel
theorem dX12_init_74 : decode cX12_init 74 = .ok (.putfield 37, 3) := by decide +kernel
theorem dX12_init_77 : decode cX12_init 77 = .ok (.aload_n 0, 1) := by decide +kernel
theorem dX12_init_78 : decode cX12_init 78 = .ok (.bipush 6, 2) := by decide +kernel
theorem dX12_init_80 : decode cX12_init 80 = .ok (.newarray .int, 2) := by decide +kernel
theorem dX12_init_82 : decode cX12_init 82 = .ok (.putfield 40, 3) := by decide +kernel
theorem dX12_init_85 : decode cX12_init 85 = .ok (.aload_n 0, 1) := by decide +kernel
theorem dX12_init_86 : decode cX12_init 86 = .ok (.bipush 24, 2) := by decide +kernel
theorem dX12_init_88 : decode cX12_init 88 = .ok (.newarray .byte, 2) := by decide +kernel
theorem dX12_init_90 : decode cX12_init 90 = .ok (.putfield 43, 3) := by decide +kernel
theorem dX12_init_93 : decode cX12_init 93 = .ok (.aload_n 0, 1) := by decide +kernel
theorem dX12_init_94 : decode cX12_init 94 = .ok (.bipush 105, 2) := by decide +kernel
theorem dX12_init_96 : decode cX12_init 96 = .ok (.newarray .int, 2) := by decide +kernel
theorem dX12_init_98 : decode cX12_init 98 = .ok (.putfield 47, 3) := by decide +kernel
theorem dX12_init_101 : decode cX12_init 101 = .ok (.aload_n 0, 1) := by decide +kernel
theorem dX12_init_102 : decode cX12_init 102 = .ok (.iconst 4, 1) := by decide +kernel
theorem dX12_init_103 : decode cX12_init 103 = .ok (.newarray .int, 2) := by decide +kernel
theorem dX12_init_105 : decode cX12_init 105 = .ok (.putfield 50, 3) := by decide +kernel
theorem dX12_init_108 : decode cX12_init 108 = .ok (.aload_n 0, 1) := by decide +kernel
theorem dX12_init_109 : decode cX12_init 109 = .ok (.iconst 4, 1) := by decide +kernel
theorem dX12_init_110 : decode cX12_init 110 = .ok (.newarray .int, 2) := by decide +kernel
theorem dX12_init_112 : decode cX12_init 112 = .ok (.putfield 53, 3) := by decide +kernel
theorem dX12_init_115 : decode cX12_init 115 = .ok (.aload_n 0, 1) := by decide +kernel
theorem dX12_init_116 : decode cX12_init 116 = .ok (.sipush 9261, 3) := by decide +kernel
theorem dX12_init_119 : decode cX12_init 119 = .ok (.newarray .int, 2) := by decide +kernel
theorem dX12_init_121 : decode cX12_init 121 = .ok (.putfield 56, 3) := by decide +kernel
theorem dX12_init_124 : decode cX12_init 124 = .ok (.aload_n 0, 1) := by decide +kernel
theorem dX12_init_125 : decode cX12_init 125 = .ok (.iconst 3, 1) := by decide +kernel
theorem dX12_init_126 : decode cX12_init 126 = .ok (.newarray .int, 2) := by decide +kernel
theorem dX12_init_128 : decode cX12_init 128 = .ok (.putfield 59, 3) := by decide +kernel
theorem dX12_init_131 : decode cX12_init 131 = .ok (.aload_n 0, 1) := by decide +kernel
theorem dX12_init_132 : decode cX12_init 132 = .ok (.iconst 3, 1) := by decide +kernel
theorem dX12_init_133 : decode cX12_init 133 = .ok (.newarray .int, 2) := by decide +kernel
theorem dX12_init_135 : decode cX12_init 135 = .ok (.putfield 62, 3) := by decide +kernel
theorem dX12_init_138 : decode cX12_init 138 = .ok (.aload_n 0, 1) := by decide +kernel
theorem dX12_init_139 : decode cX12_init 139 = .ok (.bipush 20, 2) := by decide +kernel
theorem dX12_init_141 : decode cX12_init 141 = .ok (.newarray .int, 2) := by decide +kernel
theorem dX12_init_143 : decode cX12_init 143 = .ok (.putfield 65, 3) := by decide +kernel
theorem dX12_init_146 : decode cX12_init 146 = .ok (.aload_n 0, 1) := by decide +kernel
theorem dX12_init_147 : decode cX12_init 147 = .ok (.bipush 6, 2) := by decide +kernel
theorem dX12_init_149 : decode cX12_init 149 = .ok (.newarray .int, 2) := by decide +kernel
theorem dX12_init_151 : decode cX12_init 151 = .ok (.putfield 68, 3) := by decide +kernel
theorem dX12_init_154 : decode cX12_init 154 = .ok (.aload_n 0, 1) := by decide +kernel
theorem dX12_init_155 : decode cX12_init 155 = .ok (.bipush 6, 2) := by decide +kernel
theorem dX12_init_157 : decode cX12_init 157 = .ok (.newarray .int, 2) := by decide +kernel
theorem dX12_init_159 : decode cX12_init 159 = .ok (.putfield 71, 3) := by decide +kernel
theorem dX12_init_162 : decode cX12_init 162 = .ok (.aload_n 0, 1) := by decide +kernel
theorem dX12_init_163 : decode cX12_init 163 = .ok (.bipush 6, 2) := by decide +kernel
theorem dX12_init_165 : decode cX12_init 165 = .ok (.newarray .int, 2) := by decide +kernel
theorem dX12_init_167 : decode cX12_init 167 = .ok (.putfield 74, 3) := by decide +kernel
theorem dX12_init_170 : decode cX12_init 170 = .ok (.return_, 1) := by decide +kernel
theorem dX12_within_0 : decode cX12_within 0 = .ok (.iload_n 0, 1) := by decide +kernel
theorem dX12_within_1 : decode cX12_within 1 = .ok (.iload_n 1, 1) := by decide +kernel
theorem dX12_within_2 : decode cX12_within 2 = .ok (.if_icmp .lt 12, 3) := by decide +kernel
theorem dX12_within_5 : decode cX12_within 5 = .ok (.iload_n 0, 1) := by decide +kernel
theorem dX12_within_6 : decode cX12_within 6 = .ok (.iload_n 2, 1) := by decide +kernel
theorem dX12_within_7 : decode cX12_within 7 = .ok (.if_icmp .gt 7, 3) := by decide +kernel
theorem dX12_within_10 : decode cX12_within 10 = .ok (.iconst 1, 1) := by decide +kernel
theorem dX12_within_11 : decode cX12_within 11 = .ok (.goto 4, 3) := by decide +kernel
theorem dX12_within_14 : decode cX12_within 14 = .ok (.iconst 0, 1) := by decide +kernel
theorem dX12_within_15 : decode cX12_within 15 = .ok (.ireturn, 1) := by decide +kernel
theorem dX12_isIn_0 : decode cX12_isIn 0 = .ok (.iload_n 0, 1) := by decide +kernel
theorem dX12_isIn_1 : decode cX12_isIn 1 = .ok (.iload_n 1, 1) := by decide +kernel
theorem dX12_isIn_2 : decode cX12_isIn 2 = .ok (.ishr, 1) := by decide +kernel
theorem dX12_isIn_3 : decode cX12_isIn 3 = .ok (.iconst 1, 1) := by decide +kernel
theorem dX12_isIn_4 : decode cX12_isIn 4 = .ok (.iand, 1) := by decide +kernel
theorem dX12_isIn_5 : decode cX12_isIn 5 = .ok (.iconst 1, 1) := by decide +kernel
theorem dX12_isIn_6 : decode cX12_isIn 6 = .ok (.if_icmp .ne 7, 3) := by decide +kernel
theorem dX12_isIn_9 : decode cX12_isIn 9 = .ok (.iconst 1, 1) := by decide +kernel
theorem dX12_isIn_10 : decode cX12_isIn 10 = .ok (.goto 4, 3) := by decide +kernel
theorem dX12_isIn_13 : decode cX12_isIn 13 = .ok (.iconst 0, 1) := by decide +kernel
theorem dX12_isIn_14 : decode cX12_isIn 14 = .ok (.ireturn, 1) := by decide +kernel
theorem dX12_divisor_0 : decode cX12_divisor 0 = .ok (.iload_n 0, 1) := by decide +kernel
theorem dX12_divisor_1 : decode cX12_divisor 1 = .ok (.istore_n 2, 1) := by decide +kernel
theorem dX12_divisor_2 : decode cX12_divisor 2 = .ok (.iload_n 1, 1) := by decide +kernel
theorem dX12_divisor_3 : decode cX12_divisor 3 = .ok (.istore_n 3, 1) := by decide +kernel
theorem dX12_divisor_4 : decode cX12_divisor 4 = .ok (.iload_n 3, 1) := by decide +kernel
theorem dX12_divisor_5 : decode cX12_divisor 5 = .ok (.ifCond .eq 16, 3) := by decide +kernel
theorem dX12_divisor_8 : decode cX12_divisor 8 = .ok (.iload_n 2, 1) := by decide +kernel
theorem dX12_divisor_9 : decode cX12_divisor 9 = .ok (.iload_n 3, 1) := by decide +kernel
theorem dX12_divisor_10 : decode cX12_divisor 10 = .ok (.irem, 1) := by decide +kernel
theorem dX12_divisor_11 : decode cX12_divisor 11 = .ok (.istore 4, 2) := by decide +kernel
theorem dX12_divisor_13 : decode cX12_divisor 13 = .ok (.iload_n 3, 1) := by decide +kernel
theorem dX12_divisor_14 : decode cX12_divisor 14 = .ok (.istore_n 2, 1) := by decide +kernel
theorem dX12_divisor_15 : decode cX12_divisor 15 = .ok (.iload 4, 2) := by decide +kernel
theorem dX12_divisor_17 : decode cX12_divisor 17 = .ok (.istore_n 3, 1) := by decide +kernel
theorem dX12_divisor_18 : decode cX12_divisor 18 = .ok (.goto (-14), 3) := by decide +kernel
theorem dX12_divisor_21 : decode cX12_divisor 21 = .ok (.iload_n 2, 1) := by decide +kernel
theorem dX12_divisor_22 : decode cX12_divisor 22 = .ok (.ireturn, 1) := by decide +kernel
set_option maxRecDepth 20000 in
theorem ggX12_letter_X12_within : GoodIn wsX12_letter wsX12_within := goodIn_r _ [6] (by decide +kernel) (by decide +kernel)
set_option maxRecDepth 20000 in
theorem gX12_letter_X12_within : GoodIn wsX12_letter (va_wsS RX12 77 yX12_within wsX12_within) := goodIn_app (goodIn_of _ (by decide +kernel)) ggX12_letter_X12_within
theorem dX12_letter_0 : decode cX12_letter 0 = .ok (.iload_n 1, 1) := by decide +kernel
theorem dX12_letter_1 : decode cX12_letter 1 = .ok (.bipush 32, 2) := by decide +kernel
theorem dX12_letter_3 : decode cX12_letter 3 = .ok (.bipush 126, 2) := by decide +kernel
theorem dX12_letter_5 : decode cX12_letter 5 = .ok (.invokestatic 77, 3) := by decide +kernel
theorem dX12_letter_8 : decode cX12_letter 8 = .ok (.ifCond .ne 6, 3) := by decide +kernel
theorem dX12_letter_11 : decode cX12_letter 11 = .ok (.bipush (-102), 2) := by decide +kernel
theorem dX12_letter_13 : decode cX12_letter 13 = .ok (.ireturn, 1) := by decide +kernel
theorem dX12_letter_14 : decode cX12_letter 14 = .ok (.aload_n 0, 1) := by decide +kernel
theorem dX12_letter_15 : decode cX12_letter 15 = .ok (.getfield 81, 3) := by decide +kernel
theorem dX12_letter_18 : decode cX12_letter 18 = .ok (.bipush 24, 2) := by decide +kernel
theorem dX12_letter_20 : decode cX12_letter 20 = .ok (.if_icmp .ne 6, 3) := by decide +kernel
theorem dX12_letter_23 : decode cX12_letter 23 = .ok (.bipush (-104), 2) := by decide +kernel
theorem dX12_letter_25 : decode cX12_letter 25 = .ok (.ireturn, 1) := by decide +kernel
theorem dX12_letter_26 : decode cX12_letter 26 = .ok (.aload_n 0, 1) := by decide +kernel
theorem dX12_letter_27 : decode cX12_letter 27 = .ok (.getfield 43, 3) := by decide +kernel
theorem dX12_letter_30 : decode cX12_letter 30 = .ok (.aload_n 0, 1) := by decide +kernel
theorem dX12_letter_31 : decode cX12_letter 31 = .ok (.getfield 81, 3) := by decide +kernel
theorem dX12_letter_34 : decode cX12_letter 34 = .ok (.iload_n 1, 1) := by decide +kernel
theorem dX12_letter_35 : decode cX12_letter 35 = .ok (.i2b, 1) := by decide +kernel
theorem dX12_letter_36 : decode cX12_letter 36 = .ok (.bastore, 1) := by decide +kernel
theorem dX12_letter_37 : decode cX12_letter 37 = .ok (.aload_n 0, 1) := by decide +kernel
theorem dX12_letter_38 : decode cX12_letter 38 = .ok (.dup, 1) := by decide +kernel
theorem dX12_letter_39 : decode cX12_letter 39 = .ok (.getfield 81, 3) := by decide +kernel
theorem dX12_letter_42 : decode cX12_letter 42 = .ok (.iconst 1, 1) := by decide +kernel
theorem dX12_letter_43 : decode cX12_letter 43 = .ok (.iadd, 1) := by decide +kernel
theorem dX12_letter_44 : decode cX12_letter 44 = .ok (.putfield 81, 3) := by decide +kernel
theorem dX12_letter_47 : decode cX12_letter 47 = .ok (.aload_n 0, 1) := by decide +kernel
theorem dX12_letter_48 : decode cX12_letter 48 = .ok (.getfield 81, 3) := by decide +kernel
theorem dX12_letter_51 : decode cX12_letter 51 = .ok (.ireturn, 1) := by decide +kernel
theorem dX12_blank_0 : decode cX12_blank 0 = .ok (.aload_n 0, 1) := by decide +kernel
theorem dX12_blank_1 : decode cX12_blank 1 = .ok (.getfield 81, 3) := by decide +kernel
theorem dX12_blank_4 : decode cX12_blank 4 = .ok (.istore_n 1, 1) := by decide +kernel
theorem dX12_blank_5 : decode cX12_blank 5 = .ok (.aload_n 0, 1) := by decide +kernel
theorem dX12_blank_6 : decode cX12_blank 6 = .ok (.iconst 0, 1) := by decide +kernel
theorem dX12_blank_7 : decode cX12_blank 7 = .ok (.putfield 81, 3) := by decide +kernel
theorem dX12_blank_10 : decode cX12_blank 10 = .ok (.iload_n 1, 1) := by decide +kernel
theorem dX12_blank_11 : decode cX12_blank 11 = .ok (.ireturn, 1) := by decide +kernel
theorem dX12_sillBy_0 : decode cX12_sillBy 0 = .ok (.iload_n 0, 1) := by decide +kernel
theorem dX12_sillBy_1 : decode cX12_sillBy 1 = .ok (.bipush 119, 2) := by decide +kernel
theorem dX12_sillBy_3 : decode cX12_sillBy 3 = .ok (.if_icmp .ne 7, 3) := by decide +kernel
theorem dX12_sillBy_6 : decode cX12_sillBy 6 = .ok (.iconst 0, 1) := by decide +kernel
theorem dX12_sillBy_7 : decode cX12_sillBy 7 = .ok (.goto 24, 3) := by decide +kernel
theorem dX12_sillBy_10 : decode cX12_sillBy 10 = .ok (.iload_n 0, 1) := by decide +kernel
theorem dX12_sillBy_11 : decode cX12_sillBy 11 = .ok (.bipush 99, 2) := by decide +kernel
theorem dX12_sillBy_13 : decode cX12_sillBy 13 = .ok (.if_icmp .ne 7, 3) := by decide +kernel
theorem dX12_sillBy_16 : decode cX12_sillBy 16 = .ok (.iconst 1, 1) := by decide +kernel
theorem dX12_sillBy_17 : decode cX12_sillBy 17 = .ok (.goto 14, 3) := by decide +kernel
theorem dX12_sillBy_20 : decode cX12_sillBy 20 = .ok (.iload_n 0, 1) := by decide +kernel
theorem dX12_sillBy_21 : decode cX12_sillBy 21 = .ok (.bipush 102, 2) := by decide +kernel
theorem dX12_sillBy_23 : decode cX12_sillBy 23 = .ok (.if_icmp .ne 7, 3) := by decide +kernel
theorem dX12_sillBy_26 : decode cX12_sillBy 26 = .ok (.iconst 2, 1) := by decide +kernel
theorem dX12_sillBy_27 : decode cX12_sillBy 27 = .ok (.goto 4, 3) := by decide +kernel
theorem dX12_sillBy_30 : decode cX12_sillBy 30 = .ok (.iconst (-1), 1) := by decide +kernel
theorem dX12_sillBy_31 : decode cX12_sillBy 31 = .ok (.ireturn, 1) := by decide +kernel
theorem dX12_kindBy_0 : decode cX12_kindBy 0 = .ok (.iload_n 0, 1) := by decide +kernel
theorem dX12_kindBy_1 : decode cX12_kindBy 1 = .ok (.lookupswitch 61 #[(99, 51), (104, 53), (106, 59), (115, 55), (121, 57)], 51) := by decide +kernel
theorem dX12_kindBy_52 : decode cX12_kindBy 52 = .ok (.iconst 0, 1) := by decide +kernel
theorem dX12_kindBy_53 : decode cX12_kindBy 53 = .ok (.ireturn, 1) := by decide +kernel
theorem dX12_kindBy_54 : decode cX12_kindBy 54 = .ok (.iconst 1, 1) := by decide +kernel
theorem dX12_kindBy_55 : decode cX12_kindBy 55 = .ok (.ireturn, 1) := by decide +kernel
theorem dX12_kindBy_56 : decode cX12_kindBy 56 = .ok (.iconst 2, 1) := by decide +kernel
theorem dX12_kindBy_57 : decode cX12_kindBy 57 = .ok (.ireturn, 1) := by decide +kernel
theorem dX12_kindBy_58 : decode cX12_kindBy 58 = .ok (.iconst 3, 1) := by decide +kernel
theorem dX12_kindBy_59 : decode cX12_kindBy 59 = .ok (.ireturn, 1) := by decide +kernel
theorem dX12_kindBy_60 : decode cX12_kindBy 60 = .ok (.iconst 4, 1) := by decide +kernel
theorem dX12_kindBy_61 : decode cX12_kindBy 61 = .ok (.ireturn, 1) := by decide +kernel
theorem dX12_kindBy_62 : decode cX12_kindBy 62 = .ok (.iconst (-1), 1) := by decide +kernel
theorem dX12_kindBy_63 : decode cX12_kindBy 63 = .ok (.ireturn, 1) := by decide +kernel
theorem dX12_at_0 : decode cX12_at 0 = .ok (.iload_n 1, 1) := by decide +kernel
theorem dX12_at_1 : decode cX12_at 1 = .ok (.aload_n 0, 1) := by decide +kernel
theorem dX12_at_2 : decode cX12_at 2 = .ok (.getfield 81, 3) := by decide +kernel
theorem dX12_at_5 : decode cX12_at 5 = .ok (.if_icmp .ge 12, 3) := by decide +kernel
theorem dX12_at_8 : decode cX12_at 8 = .ok (.aload_n 0, 1) := by decide +kernel
theorem dX12_at_9 : decode cX12_at 9 = .ok (.getfield 43, 3) := by decide +kernel
theorem dX12_at_12 : decode cX12_at 12 = .ok (.iload_n 1, 1) := by decide +kernel
theorem dX12_at_13 : decode cX12_at 13 = .ok (.baload, 1) := by decide +kernel
theorem dX12_at_14 : decode cX12_at 14 = .ok (.goto 4, 3) := by decide +kernel
theorem dX12_at_17 : decode cX12_at 17 = .ok (.iconst 0, 1) := by decide +kernel
theorem dX12_at_18 : decode cX12_at 18 = .ok (.ireturn, 1) := by decide +kernel
set_option maxRecDepth 20000 in
theorem ggX12_isFigure_X12_at : GoodIn wsX12_isFigure wsX12_at := goodIn_r _ [5, 6, 7, 11, 12, 13, 14, 15, 16, 17, 18, 19, 20, 21, 22, 23, 24, 25, 26, 27, 28, 29, 30, 31, 32, 33, 34, 35, 36, 37, 38, 39, 40, 41, 42, 43, 44, 45, 46, 47, 48] (by decide +kernel) (by decide +kernel)
set_option maxRecDepth 20000 in
theorem gX12_isFigure_X12_at : GoodIn wsX12_isFigure (wsV RX12 85 RX12 yX12_at wsX12_at) := goodIn_app (goodIn_of _ (by decide +kernel)) ggX12_isFigure_X12_at
set_option maxRecDepth 20000 in
theorem ggX12_isFigure_X12_within : GoodIn wsX12_isFigure wsX12_within := goodIn_r _ [10] (by decide +kernel) (by decide +kernel)
set_option maxRecDepth 20000 in
theorem gX12_isFigure_X12_within : GoodIn wsX12_isFigure (va_wsS RX12 77 yX12_within wsX12_within) := goodIn_app (goodIn_of _ (by decide +kernel)) ggX12_isFigure_X12_within
theorem dX12_isFigure_0 : decode cX12_isFigure 0 = .ok (.aload_n 0, 1) := by decide +kernel
theorem dX12_isFigure_1 : decode cX12_isFigure 1 = .ok (.iload_n 1, 1) := by decide +kernel
theorem dX12_isFigure_2 : decode cX12_isFigure 2 = .ok (.invokevirtual 85, 3) := by decide +kernel
theorem dX12_isFigure_5 : decode cX12_isFigure 5 = .ok (.bipush 48, 2) := by decide +kernel
theorem dX12_isFigure_7 : decode cX12_isFigure 7 = .ok (.isub, 1) := by decide +kernel
theorem dX12_isFigure_8 : decode cX12_isFigure 8 = .ok (.iconst 0, 1) := by decide +kernel
theorem dX12_isFigure_9 : decode cX12_isFigure 9 = .ok (.bipush 9, 2) := by decide +kernel
theorem dX12_isFigure_11 : decode cX12_isFigure 11 = .ok (.invokestatic 77, 3) := by decide +kernel
theorem dX12_isFigure_14 : decode cX12_isFigure 14 = .ok (.ireturn, 1) := by decide +kernel
set_option maxRecDepth 20000 in
theorem ggX12_readPan_X12_at : GoodIn wsX12_readPan wsX12_at := goodIn_r _ [5, 6, 7, 18, 19, 20, 21, 22, 23, 24, 25, 26, 27, 28, 29, 30, 31, 32, 33, 34, 35, 36, 37, 38, 39, 40, 41, 42, 43, 44, 45, 46, 47, 48, 49, 50, 51, 52, 53, 54, 55] (by decide +kernel) (by decide +kernel)
set_option maxRecDepth 20000 in
theorem gX12_readPan_X12_at : GoodIn wsX12_readPan (wsV RX12 85 RX12 yX12_at wsX12_at) := goodIn_app (goodIn_of _ (by decide +kernel)) ggX12_readPan_X12_at
set_option maxRecDepth 20000 in
theorem ggX12_readPan_X12_sillBy : GoodIn wsX12_readPan wsX12_sillBy := goodIn_r _ [10] (by decide +kernel) (by decide +kernel)
set_option maxRecDepth 20000 in
theorem gX12_readPan_X12_sillBy : GoodIn wsX12_readPan (va_wsS RX12 89 yX12_sillBy wsX12_sillBy) := goodIn_app (goodIn_of _ (by decide +kernel)) ggX12_readPan_X12_sillBy
set_option maxRecDepth 20000 in
theorem ggX12_readPan_X12_isFigure : GoodIn wsX12_readPan wsX12_isFigure := goodIn_r _ [14, 1, 2, 3, 4, 5, 6, 7, 15, 16, 17, 18, 19, 20, 21, 22, 23, 24, 25, 26, 27, 28, 29, 30, 31, 32, 33, 34, 35, 36, 37, 38, 39, 40, 41, 42, 43, 44, 45, 46, 47, 48, 49, 50, 51, 52, 53, 54, 55] (by decide +kernel) (by decide +kernel)
set_option maxRecDepth 20000 in
theorem gX12_readPan_X12_isFigure : GoodIn wsX12_readPan (wsV RX12 92 RX12 yX12_isFigure wsX12_isFigure) := goodIn_app (goodIn_of _ (by decide +kernel)) ggX12_readPan_X12_isFigure
theorem dX12_readPan_0 : decode cX12_readPan 0 = .ok (.aload_n 0, 1) := by decide +kernel
theorem dX12_readPan_1 : decode cX12_readPan 1 = .ok (.iload_n 1, 1) := by decide +kernel
theorem dX12_readPan_2 : decode cX12_readPan 2 = .ok (.invokevirtual 85, 3) := by decide +kernel
theorem dX12_readPan_5 : decode cX12_readPan 5 = .ok (.invokestatic 89, 3) := by decide +kernel
theorem dX12_readPan_8 : decode cX12_readPan 8 = .ok (.iconst (-1), 1) := by decide +kernel
theorem dX12_readPan_9 : decode cX12_readPan 9 = .ok (.if_icmp .ne 5, 3) := by decide +kernel
theorem dX12_readPan_12 : decode cX12_readPan 12 = .ok (.iload_n 1, 1) := by decide +kernel
theorem dX12_readPan_13 : decode cX12_readPan 13 = .ok (.ireturn, 1) := by decide +kernel
theorem dX12_readPan_14 : decode cX12_readPan 14 = .ok (.aload_n 0, 1) := by decide +kernel
theorem dX12_readPan_15 : decode cX12_readPan 15 = .ok (.iload_n 1, 1) := by decide +kernel
theorem dX12_readPan_16 : decode cX12_readPan 16 = .ok (.iconst 1, 1) := by decide +kernel
theorem dX12_readPan_17 : decode cX12_readPan 17 = .ok (.iadd, 1) := by decide +kernel
theorem dX12_readPan_18 : decode cX12_readPan 18 = .ok (.invokevirtual 92, 3) := by decide +kernel
theorem dX12_readPan_21 : decode cX12_readPan 21 = .ok (.ifCond .ne 9, 3) := by decide +kernel
theorem dX12_readPan_24 : decode cX12_readPan 24 = .ok (.iload_n 1, 1) := by decide +kernel
theorem dX12_readPan_25 : decode cX12_readPan 25 = .ok (.iconst 1, 1) := by decide +kernel
theorem dX12_readPan_26 : decode cX12_readPan 26 = .ok (.iadd, 1) := by decide +kernel
theorem dX12_readPan_27 : decode cX12_readPan 27 = .ok (.goto 22, 3) := by decide +kernel
theorem dX12_readPan_30 : decode cX12_readPan 30 = .ok (.aload_n 0, 1) := by decide +kernel
theorem dX12_readPan_31 : decode cX12_readPan 31 = .ok (.iload_n 1, 1) := by decide +kernel
theorem dX12_readPan_32 : decode cX12_readPan 32 = .ok (.iconst 2, 1) := by decide +kernel
theorem dX12_readPan_33 : decode cX12_readPan 33 = .ok (.iadd, 1) := by decide +kernel
theorem dX12_readPan_34 : decode cX12_readPan 34 = .ok (.invokevirtual 92, 3) := by decide +kernel
theorem dX12_readPan_37 : decode cX12_readPan 37 = .ok (.ifCond .ne 9, 3) := by decide +kernel
theorem dX12_readPan_40 : decode cX12_readPan 40 = .ok (.iload_n 1, 1) := by decide +kernel
theorem dX12_readPan_41 : decode cX12_readPan 41 = .ok (.iconst 2, 1) := by decide +kernel
theorem dX12_readPan_42 : decode cX12_readPan 42 = .ok (.iadd, 1) := by decide +kernel
theorem dX12_readPan_43 : decode cX12_readPan 43 = .ok (.goto 6, 3) := by decide +kernel
theorem dX12_readPan_46 : decode cX12_readPan 46 = .ok (.iload_n 1, 1) := by decide +kernel
theorem dX12_readPan_47 : decode cX12_readPan 47 = .ok (.iconst 3, 1) := by decide +kernel
theorem dX12_readPan_48 : decode cX12_readPan 48 = .ok (.iadd, 1) := by decide +kernel
theorem dX12_readPan_49 : decode cX12_readPan 49 = .ok (.ireturn, 1) := by decide +kernel
set_option maxRecDepth 20000 in
theorem ggX12_readChildren_X12_at : GoodIn wsX12_readChildren wsX12_at := goodIn_r _ [8, 2, 9, 13, 14, 15, 16, 17, 18, 19, 20, 21, 22, 23, 24, 25, 26, 27, 28, 29, 30, 31, 32, 33, 34, 35, 36, 37, 38, 39, 40, 41, 42, 43, 44, 45, 46, 47, 48, 49, 50] (by decide +kernel) (by decide +kernel)
set_option maxRecDepth 20000 in
theorem gX12_readChildren_X12_at : GoodIn wsX12_readChildren (wsV RX12 85 RX12 yX12_at wsX12_at) := goodIn_app (goodIn_of _ (by decide +kernel)) ggX12_readChildren_X12_at
set_option maxRecDepth 20000 in
theorem ggX12_readChildren_X12_kindBy : GoodIn wsX12_readChildren wsX12_kindBy := goodIn_r _ [12] (by decide +kernel) (by decide +kernel)
set_option maxRecDepth 20000 in
theorem gX12_readChildren_X12_kindBy : GoodIn wsX12_readChildren (va_wsS RX12 99 yX12_kindBy wsX12_kindBy) := goodIn_app (goodIn_of _ (by decide +kernel)) ggX12_readChildren_X12_kindBy
theorem dX12_readChildren_0 : decode cX12_readChildren 0 = .ok (.iload_n 1, 1) := by decide +kernel
theorem dX12_readChildren_1 : decode cX12_readChildren 1 = .ok (.istore_n 2, 1) := by decide +kernel
theorem dX12_readChildren_2 : decode cX12_readChildren 2 = .ok (.aload_n 0, 1) := by decide +kernel
theorem dX12_readChildren_3 : decode cX12_readChildren 3 = .ok (.getfield 96, 3) := by decide +kernel
theorem dX12_readChildren_6 : decode cX12_readChildren 6 = .ok (.iconst 5, 1) := by decide +kernel
theorem dX12_readChildren_7 : decode cX12_readChildren 7 = .ok (.if_icmp .ge 81, 3) := by decide +kernel
theorem dX12_readChildren_10 : decode cX12_readChildren 10 = .ok (.aload_n 0, 1) := by decide +kernel
theorem dX12_readChildren_11 : decode cX12_readChildren 11 = .ok (.iload_n 2, 1) := by decide +kernel
theorem dX12_readChildren_12 : decode cX12_readChildren 12 = .ok (.invokevirtual 85, 3) := by decide +kernel
theorem dX12_readChildren_15 : decode cX12_readChildren 15 = .ok (.invokestatic 99, 3) := by decide +kernel
theorem dX12_readChildren_18 : decode cX12_readChildren 18 = .ok (.iconst (-1), 1) := by decide +kernel
theorem dX12_readChildren_19 : decode cX12_readChildren 19 = .ok (.if_icmp .ne 5, 3) := by decide +kernel
theorem dX12_readChildren_22 : decode cX12_readChildren 22 = .ok (.iload_n 2, 1) := by decide +kernel
theorem dX12_readChildren_23 : decode cX12_readChildren 23 = .ok (.ireturn, 1) := by decide +kernel
theorem dX12_readChildren_24 : decode cX12_readChildren 24 = .ok (.aload_n 0, 1) := by decide +kernel
theorem dX12_readChildren_25 : decode cX12_readChildren 25 = .ok (.dup, 1) := by decide +kernel
theorem dX12_readChildren_26 : decode cX12_readChildren 26 = .ok (.getfield 96, 3) := by decide +kernel
theorem dX12_readChildren_29 : decode cX12_readChildren 29 = .ok (.iconst 1, 1) := by decide +kernel
theorem dX12_readChildren_30 : decode cX12_readChildren 30 = .ok (.iadd, 1) := by decide +kernel
theorem dX12_readChildren_31 : decode cX12_readChildren 31 = .ok (.putfield 96, 3) := by decide +kernel
theorem dX12_readChildren_34 : decode cX12_readChildren 34 = .ok (.iinc 2 1, 3) := by decide +kernel
theorem dX12_readChildren_37 : decode cX12_readChildren 37 = .ok (.aload_n 0, 1) := by decide +kernel
theorem dX12_readChildren_38 : decode cX12_readChildren 38 = .ok (.iload_n 2, 1) := by decide +kernel
theorem dX12_readChildren_39 : decode cX12_readChildren 39 = .ok (.aload_n 0, 1) := by decide +kernel
theorem dX12_readChildren_40 : decode cX12_readChildren 40 = .ok (.getfield 81, 3) := by decide +kernel
theorem dX12_readChildren_43 : decode cX12_readChildren 43 = .ok (.if_icmp .ne 15, 3) := by decide +kernel
theorem dX12_readChildren_46 : decode cX12_readChildren 46 = .ok (.aload_n 0, 1) := by decide +kernel
theorem dX12_readChildren_47 : decode cX12_readChildren 47 = .ok (.getfield 96, 3) := by decide +kernel
theorem dX12_readChildren_50 : decode cX12_readChildren 50 = .ok (.iconst 1, 1) := by decide +kernel
theorem dX12_readChildren_51 : decode cX12_readChildren 51 = .ok (.if_icmp .le 7, 3) := by decide +kernel
theorem dX12_readChildren_54 : decode cX12_readChildren 54 = .ok (.iconst 1, 1) := by decide +kernel
theorem dX12_readChildren_55 : decode cX12_readChildren 55 = .ok (.goto 4, 3) := by decide +kernel
theorem dX12_readChildren_58 : decode cX12_readChildren 58 = .ok (.iconst 0, 1) := by decide +kernel
theorem dX12_readChildren_59 : decode cX12_readChildren 59 = .ok (.putfield 102, 3) := by decide +kernel
theorem dX12_readChildren_62 : decode cX12_readChildren 62 = .ok (.aload_n 0, 1) := by decide +kernel
theorem dX12_readChildren_63 : decode cX12_readChildren 63 = .ok (.getfield 96, 3) := by decide +kernel
theorem dX12_readChildren_66 : decode cX12_readChildren 66 = .ok (.iconst 5, 1) := by decide +kernel
theorem dX12_readChildren_67 : decode cX12_readChildren 67 = .ok (.if_icmp .eq 13, 3) := by decide +kernel
theorem dX12_readChildren_70 : decode cX12_readChildren 70 = .ok (.aload_n 0, 1) := by decide +kernel
theorem dX12_readChildren_71 : decode cX12_readChildren 71 = .ok (.iload_n 2, 1) := by decide +kernel
theorem dX12_readChildren_72 : decode cX12_readChildren 72 = .ok (.invokevirtual 85, 3) := by decide +kernel
theorem dX12_readChildren_75 : decode cX12_readChildren 75 = .ok (.bipush 44, 2) := by decide +kernel
theorem dX12_readChildren_77 : decode cX12_readChildren 77 = .ok (.if_icmp .eq 5, 3) := by decide +kernel
theorem dX12_readChildren_80 : decode cX12_readChildren 80 = .ok (.iload_n 2, 1) := by decide +kernel
theorem dX12_readChildren_81 : decode cX12_readChildren 81 = .ok (.ireturn, 1) := by decide +kernel
theorem dX12_readChildren_82 : decode cX12_readChildren 82 = .ok (.iinc 2 1, 3) := by decide +kernel
theorem dX12_readChildren_85 : decode cX12_readChildren 85 = .ok (.goto (-83), 3) := by decide +kernel
theorem dX12_readChildren_88 : decode cX12_readChildren 88 = .ok (.iload_n 2, 1) := by decide +kernel
theorem dX12_readChildren_89 : decode cX12_readChildren 89 = .ok (.ireturn, 1) := by decide +kernel
set_option maxRecDepth 20000 in
theorem ggX12_read_X12_readPan : GoodIn wsX12_read wsX12_readPan := goodIn_r _ [8, 9, 10, 11, 7, 12, 13, 14, 15, 16, 17, 18, 19, 20, 21, 22, 23, 24, 32, 33, 34, 35, 36, 37, 38, 39, 40, 41, 42, 43, 44, 45, 46, 47, 48, 49, 50, 51, 52, 53, 54, 55, 56, 57, 58, 59, 60, 61, 62, 63, 64, 65, 66, 67, 68, 69] (by decide +kernel) (by decide +kernel)
set_option maxRecDepth 20000 in
theorem gX12_read_X12_readPan : GoodIn wsX12_read (wsV RX12 109 RX12 yX12_readPan wsX12_readPan) := goodIn_app (goodIn_of _ (by decide +kernel)) ggX12_read_X12_readPan
set_option maxRecDepth 20000 in
theorem ggX12_read_X12_at : GoodIn wsX12_read wsX12_at := goodIn_r _ [12, 13, 14, 32, 33, 34, 35, 36, 37, 38, 39, 40, 41, 42, 43, 44, 45, 46, 47, 48, 49, 50, 51, 52, 53, 54, 55, 56, 57, 58, 59, 60, 61, 62, 63, 64, 65, 66, 67, 68, 69] (by decide +kernel) (by decide +kernel)
set_option maxRecDepth 20000 in
theorem gX12_read_X12_at : GoodIn wsX12_read (wsV RX12 85 RX12 yX12_at wsX12_at) := goodIn_app (goodIn_of _ (by decide +kernel)) ggX12_read_X12_at
set_option maxRecDepth 20000 in
theorem ggX12_read_X12_readChildren : GoodIn wsX12_read wsX12_readChildren := goodIn_r _ [28, 3, 13, 1, 9, 10, 11, 7, 12, 14, 29, 30, 31, 32, 33, 34, 35, 36, 37, 38, 39, 40, 41, 42, 43, 44, 45, 46, 47, 48, 49, 50, 51, 52, 53, 54, 55, 56, 57, 58, 59, 60, 61, 62, 63, 64, 65, 66, 67, 68, 69] (by decide +kernel) (by decide +kernel)
set_option maxRecDepth 20000 in
theorem gX12_read_X12_readChildren : GoodIn wsX12_read (wsV RX12 112 RX12 yX12_readChildren wsX12_readChildren) := goodIn_app (goodIn_of _ (by decide +kernel)) ggX12_read_X12_readChildren
theorem dX12_read_0 : decode cX12_read 0 = .ok (.aload_n 0, 1) := by decide +kernel
theorem dX12_read_1 : decode cX12_read 1 = .ok (.iconst 0, 1) := by decide +kernel
theorem dX12_read_2 : decode cX12_read 2 = .ok (.putfield 102, 3) := by decide +kernel
theorem dX12_read_5 : decode cX12_read 5 = .ok (.aload_n 0, 1) := by decide +kernel
theorem dX12_read_6 : decode cX12_read 6 = .ok (.iconst 0, 1) := by decide +kernel
theorem dX12_read_7 : decode cX12_read 7 = .ok (.putfield 106, 3) := by decide +kernel
theorem dX12_read_10 : decode cX12_read 10 = .ok (.aload_n 0, 1) := by decide +kernel
theorem dX12_read_11 : decode cX12_read 11 = .ok (.iconst 0, 1) := by decide +kernel
theorem dX12_read_12 : decode cX12_read 12 = .ok (.putfield 96, 3) := by decide +kernel
theorem dX12_read_15 : decode cX12_read 15 = .ok (.iconst 0, 1) := by decide +kernel
theorem dX12_read_16 : decode cX12_read 16 = .ok (.istore_n 1, 1) := by decide +kernel
theorem dX12_read_17 : decode cX12_read 17 = .ok (.aload_n 0, 1) := by decide +kernel
theorem dX12_read_18 : decode cX12_read 18 = .ok (.getfield 106, 3) := by decide +kernel
theorem dX12_read_21 : decode cX12_read 21 = .ok (.iconst 3, 1) := by decide +kernel
theorem dX12_read_22 : decode cX12_read 22 = .ok (.if_icmp .ge 74, 3) := by decide +kernel
theorem dX12_read_25 : decode cX12_read 25 = .ok (.aload_n 0, 1) := by decide +kernel
theorem dX12_read_26 : decode cX12_read 26 = .ok (.iload_n 1, 1) := by decide +kernel
theorem dX12_read_27 : decode cX12_read 27 = .ok (.invokevirtual 109, 3) := by decide +kernel
theorem dX12_read_30 : decode cX12_read 30 = .ok (.istore_n 2, 1) := by decide +kernel
theorem dX12_read_31 : decode cX12_read 31 = .ok (.iload_n 2, 1) := by decide +kernel
theorem dX12_read_32 : decode cX12_read 32 = .ok (.iload_n 1, 1) := by decide +kernel
theorem dX12_read_33 : decode cX12_read 33 = .ok (.iconst 3, 1) := by decide +kernel
theorem dX12_read_34 : decode cX12_read 34 = .ok (.iadd, 1) := by decide +kernel
theorem dX12_read_35 : decode cX12_read 35 = .ok (.if_icmp .eq 5, 3) := by decide +kernel
theorem dX12_read_38 : decode cX12_read 38 = .ok (.iload_n 2, 1) := by decide +kernel
theorem dX12_read_39 : decode cX12_read 39 = .ok (.ireturn, 1) := by decide +kernel
theorem dX12_read_40 : decode cX12_read 40 = .ok (.aload_n 0, 1) := by decide +kernel
theorem dX12_read_41 : decode cX12_read 41 = .ok (.dup, 1) := by decide +kernel
theorem dX12_read_42 : decode cX12_read 42 = .ok (.getfield 106, 3) := by decide +kernel
theorem dX12_read_45 : decode cX12_read 45 = .ok (.iconst 1, 1) := by decide +kernel
theorem dX12_read_46 : decode cX12_read 46 = .ok (.iadd, 1) := by decide +kernel
theorem dX12_read_47 : decode cX12_read 47 = .ok (.putfield 106, 3) := by decide +kernel
theorem dX12_read_50 : decode cX12_read 50 = .ok (.iload_n 2, 1) := by decide +kernel
theorem dX12_read_51 : decode cX12_read 51 = .ok (.istore_n 1, 1) := by decide +kernel
theorem dX12_read_52 : decode cX12_read 52 = .ok (.aload_n 0, 1) := by decide +kernel
theorem dX12_read_53 : decode cX12_read 53 = .ok (.iload_n 1, 1) := by decide +kernel
theorem dX12_read_54 : decode cX12_read 54 = .ok (.invokevirtual 85, 3) := by decide +kernel
theorem dX12_read_57 : decode cX12_read 57 = .ok (.bipush 59, 2) := by decide +kernel
theorem dX12_read_59 : decode cX12_read 59 = .ok (.if_icmp .ne 11, 3) := by decide +kernel
theorem dX12_read_62 : decode cX12_read 62 = .ok (.aload_n 0, 1) := by decide +kernel
theorem dX12_read_63 : decode cX12_read 63 = .ok (.iload_n 1, 1) := by decide +kernel
theorem dX12_read_64 : decode cX12_read 64 = .ok (.iconst 1, 1) := by decide +kernel
theorem dX12_read_65 : decode cX12_read 65 = .ok (.iadd, 1) := by decide +kernel
theorem dX12_read_66 : decode cX12_read 66 = .ok (.invokevirtual 112, 3) := by decide +kernel
theorem dX12_read_69 : decode cX12_read 69 = .ok (.ireturn, 1) := by decide +kernel
theorem dX12_read_70 : decode cX12_read 70 = .ok (.aload_n 0, 1) := by decide +kernel
theorem dX12_read_71 : decode cX12_read 71 = .ok (.getfield 106, 3) := by decide +kernel
theorem dX12_read_74 : decode cX12_read 74 = .ok (.iconst 3, 1) := by decide +kernel
theorem dX12_read_75 : decode cX12_read 75 = .ok (.if_icmp .eq 13, 3) := by decide +kernel
theorem dX12_read_78 : decode cX12_read 78 = .ok (.aload_n 0, 1) := by decide +kernel
theorem dX12_read_79 : decode cX12_read 79 = .ok (.iload_n 1, 1) := by decide +kernel
theorem dX12_read_80 : decode cX12_read 80 = .ok (.invokevirtual 85, 3) := by decide +kernel
theorem dX12_read_83 : decode cX12_read 83 = .ok (.bipush 44, 2) := by decide +kernel
theorem dX12_read_85 : decode cX12_read 85 = .ok (.if_icmp .eq 5, 3) := by decide +kernel
theorem dX12_read_88 : decode cX12_read 88 = .ok (.iload_n 1, 1) := by decide +kernel
theorem dX12_read_89 : decode cX12_read 89 = .ok (.ireturn, 1) := by decide +kernel
theorem dX12_read_90 : decode cX12_read 90 = .ok (.iinc 1 1, 3) := by decide +kernel
theorem dX12_read_93 : decode cX12_read 93 = .ok (.goto (-76), 3) := by decide +kernel
theorem dX12_read_96 : decode cX12_read 96 = .ok (.iload_n 1, 1) := by decide +kernel
theorem dX12_read_97 : decode cX12_read 97 = .ok (.ireturn, 1) := by decide +kernel
set_option maxRecDepth 20000 in
theorem ggX12_fault_X12_read : GoodIn wsX12_fault wsX12_read := goodIn_r _ [5, 6, 7, 8, 9, 10, 11, 4, 12, 13, 14, 15, 16, 17, 18, 19, 20, 21, 22, 23, 24, 25, 26, 27, 28, 29, 30, 31, 32, 33, 34, 35, 36, 37, 38, 39, 40, 41, 42, 43, 44, 45, 46, 47, 48, 49, 50, 51, 52, 53, 54, 55, 56, 57, 58, 59, 60, 61, 62, 63, 64, 65, 66, 67, 68, 69, 70, 71, 72, 73] (by decide +kernel) (by decide +kernel)
set_option maxRecDepth 20000 in
theorem gX12_fault_X12_read : GoodIn wsX12_fault (wsV RX12 115 RX12 yX12_read wsX12_read) := goodIn_app (goodIn_of _ (by decide +kernel)) ggX12_fault_X12_read
theorem dX12_fault_0 : decode cX12_fault 0 = .ok (.aload_n 0, 1) := by decide +kernel
theorem dX12_fault_1 : decode cX12_fault 1 = .ok (.invokevirtual 115, 3) := by decide +kernel
theorem dX12_fault_4 : decode cX12_fault 4 = .ok (.ireturn, 1) := by decide +kernel
set_option maxRecDepth 20000 in
theorem ggX12_dairy_X12_read : GoodIn wsX12_dairy wsX12_read := goodIn_r _ [23, 1, 2, 4, 24, 25, 26, 22, 27, 28, 29, 30, 31, 18, 7, 32, 33, 34, 35, 36, 37, 38, 39, 40, 41, 42, 43, 44, 45, 46, 47, 48, 49, 50, 51, 52, 53, 54, 55, 56, 57, 58, 59, 60, 61, 62, 63, 64, 65, 66, 67, 68, 69, 70, 71, 72, 73, 74, 75, 76, 77, 78, 79, 80, 81, 82, 83, 84, 85, 86] (by decide +kernel) (by decide +kernel)
set_option maxRecDepth 20000 in
theorem gX12_dairy_X12_read : GoodIn wsX12_dairy (wsV RX12 115 RX12 yX12_read wsX12_read) := goodIn_app (goodIn_of _ (by decide +kernel)) ggX12_dairy_X12_read
set_option maxRecDepth 20000 in
theorem ggX12_dairy_X12_sillBy : GoodIn wsX12_dairy wsX12_sillBy := goodIn_r _ [34] (by decide +kernel) (by decide +kernel)
set_option maxRecDepth 20000 in
theorem gX12_dairy_X12_sillBy : GoodIn wsX12_dairy (va_wsS RX12 89 yX12_sillBy wsX12_sillBy) := goodIn_app (goodIn_of _ (by decide +kernel)) ggX12_dairy_X12_sillBy
set_option maxRecDepth 20000 in
theorem ggX12_dairy_X12_kindBy : GoodIn wsX12_dairy wsX12_kindBy := goodIn_r _ [48] (by decide +kernel) (by decide +kernel)
set_option maxRecDepth 20000 in
theorem gX12_dairy_X12_kindBy : GoodIn wsX12_dairy (va_wsS RX12 99 yX12_kindBy wsX12_kindBy) := goodIn_app (goodIn_of _ (by decide +kernel)) ggX12_dairy_X12_kindBy
theorem dX12_dairy_0 : decode cX12_dairy 0 = .ok (.aload_n 0, 1) := by decide +kernel
theorem dX12_dairy_1 : decode cX12_dairy 1 = .ok (.invokevirtual 115, 3) := by decide +kernel
theorem dX12_dairy_4 : decode cX12_dairy 4 = .ok (.pop, 1) := by decide +kernel
theorem dX12_dairy_5 : decode cX12_dairy 5 = .ok (.aload_n 0, 1) := by decide +kernel
theorem dX12_dairy_6 : decode cX12_dairy 6 = .ok (.getfield 102, 3) := by decide +kernel
theorem dX12_dairy_9 : decode cX12_dairy 9 = .ok (.ifCond .ne 6, 3) := by decide +kernel
theorem dX12_dairy_12 : decode cX12_dairy 12 = .ok (.bipush (-103), 2) := by decide +kernel
theorem dX12_dairy_14 : decode cX12_dairy 14 = .ok (.ireturn, 1) := by decide +kernel
theorem dX12_dairy_15 : decode cX12_dairy 15 = .ok (.aload_n 0, 1) := by decide +kernel
theorem dX12_dairy_16 : decode cX12_dairy 16 = .ok (.aload_n 0, 1) := by decide +kernel
theorem dX12_dairy_17 : decode cX12_dairy 17 = .ok (.getfield 106, 3) := by decide +kernel
theorem dX12_dairy_20 : decode cX12_dairy 20 = .ok (.putfield 119, 3) := by decide +kernel
theorem dX12_dairy_23 : decode cX12_dairy 23 = .ok (.aload_n 0, 1) := by decide +kernel
theorem dX12_dairy_24 : decode cX12_dairy 24 = .ok (.aload_n 0, 1) := by decide +kernel
theorem dX12_dairy_25 : decode cX12_dairy 25 = .ok (.getfield 96, 3) := by decide +kernel
theorem dX12_dairy_28 : decode cX12_dairy 28 = .ok (.putfield 122, 3) := by decide +kernel
theorem dX12_dairy_31 : decode cX12_dairy 31 = .ok (.iconst 0, 1) := by decide +kernel
theorem dX12_dairy_32 : decode cX12_dairy 32 = .ok (.istore_n 1, 1) := by decide +kernel
theorem dX12_dairy_33 : decode cX12_dairy 33 = .ok (.iload_n 1, 1) := by decide +kernel
theorem dX12_dairy_34 : decode cX12_dairy 34 = .ok (.aload_n 0, 1) := by decide +kernel
theorem dX12_dairy_35 : decode cX12_dairy 35 = .ok (.getfield 119, 3) := by decide +kernel
theorem dX12_dairy_38 : decode cX12_dairy 38 = .ok (.if_icmp .ge 85, 3) := by decide +kernel
theorem dX12_dairy_41 : decode cX12_dairy 41 = .ok (.aload_n 0, 1) := by decide +kernel
theorem dX12_dairy_42 : decode cX12_dairy 42 = .ok (.getfield 7, 3) := by decide +kernel
theorem dX12_dairy_45 : decode cX12_dairy 45 = .ok (.iload_n 1, 1) := by decide +kernel
theorem dX12_dairy_46 : decode cX12_dairy 46 = .ok (.aload_n 0, 1) := by decide +kernel
theorem dX12_dairy_47 : decode cX12_dairy 47 = .ok (.getfield 43, 3) := by decide +kernel
theorem dX12_dairy_50 : decode cX12_dairy 50 = .ok (.iconst 4, 1) := by decide +kernel
theorem dX12_dairy_51 : decode cX12_dairy 51 = .ok (.iload_n 1, 1) := by decide +kernel
theorem dX12_dairy_52 : decode cX12_dairy 52 = .ok (.imul, 1) := by decide +kernel
theorem dX12_dairy_53 : decode cX12_dairy 53 = .ok (.baload, 1) := by decide +kernel
theorem dX12_dairy_54 : decode cX12_dairy 54 = .ok (.invokestatic 89, 3) := by decide +kernel
theorem dX12_dairy_57 : decode cX12_dairy 57 = .ok (.iastore, 1) := by decide +kernel
theorem dX12_dairy_58 : decode cX12_dairy 58 = .ok (.aload_n 0, 1) := by decide +kernel
theorem dX12_dairy_59 : decode cX12_dairy 59 = .ok (.getfield 13, 3) := by decide +kernel
theorem dX12_dairy_62 : decode cX12_dairy 62 = .ok (.iload_n 1, 1) := by decide +kernel
theorem dX12_dairy_63 : decode cX12_dairy 63 = .ok (.aload_n 0, 1) := by decide +kernel
theorem dX12_dairy_64 : decode cX12_dairy 64 = .ok (.getfield 43, 3) := by decide +kernel
theorem dX12_dairy_67 : decode cX12_dairy 67 = .ok (.iconst 4, 1) := by decide +kernel
theorem dX12_dairy_68 : decode cX12_dairy 68 = .ok (.iload_n 1, 1) := by decide +kernel
theorem dX12_dairy_69 : decode cX12_dairy 69 = .ok (.imul, 1) := by decide +kernel
theorem dX12_dairy_70 : decode cX12_dairy 70 = .ok (.iconst 1, 1) := by decide +kernel
theorem dX12_dairy_71 : decode cX12_dairy 71 = .ok (.iadd, 1) := by decide +kernel
theorem dX12_dairy_72 : decode cX12_dairy 72 = .ok (.baload, 1) := by decide +kernel
theorem dX12_dairy_73 : decode cX12_dairy 73 = .ok (.bipush 48, 2) := by decide +kernel
theorem dX12_dairy_75 : decode cX12_dairy 75 = .ok (.isub, 1) := by decide +kernel
theorem dX12_dairy_76 : decode cX12_dairy 76 = .ok (.iastore, 1) := by decide +kernel
theorem dX12_dairy_77 : decode cX12_dairy 77 = .ok (.aload_n 0, 1) := by decide +kernel
theorem dX12_dairy_78 : decode cX12_dairy 78 = .ok (.getfield 22, 3) := by decide +kernel
theorem dX12_dairy_81 : decode cX12_dairy 81 = .ok (.iload_n 1, 1) := by decide +kernel
theorem dX12_dairy_82 : decode cX12_dairy 82 = .ok (.aload_n 0, 1) := by decide +kernel
theorem dX12_dairy_83 : decode cX12_dairy 83 = .ok (.getfield 43, 3) := by decide +kernel
theorem dX12_dairy_86 : decode cX12_dairy 86 = .ok (.iconst 4, 1) := by decide +kernel
theorem dX12_dairy_87 : decode cX12_dairy 87 = .ok (.iload_n 1, 1) := by decide +kernel
theorem dX12_dairy_88 : decode cX12_dairy 88 = .ok (.imul, 1) := by decide +kernel
theorem dX12_dairy_89 : decode cX12_dairy 89 = .ok (.iconst 2, 1) := by decide +kernel
theorem dX12_dairy_90 : decode cX12_dairy 90 = .ok (.iadd, 1) := by decide +kernel
theorem dX12_dairy_91 : decode cX12_dairy 91 = .ok (.baload, 1) := by decide +kernel
theorem dX12_dairy_92 : decode cX12_dairy 92 = .ok (.bipush 48, 2) := by decide +kernel
theorem dX12_dairy_94 : decode cX12_dairy 94 = .ok (.isub, 1) := by decide +kernel
theorem dX12_dairy_95 : decode cX12_dairy 95 = .ok (.iastore, 1) := by decide +kernel
theorem dX12_dairy_96 : decode cX12_dairy 96 = .ok (.aload_n 0, 1) := by decide +kernel
theorem dX12_dairy_97 : decode cX12_dairy 97 = .ok (.getfield 16, 3) := by decide +kernel
theorem dX12_dairy_100 : decode cX12_dairy 100 = .ok (.iload_n 1, 1) := by decide +kernel
theorem dX12_dairy_101 : decode cX12_dairy 101 = .ok (.iconst 0, 1) := by decide +kernel
theorem dX12_dairy_102 : decode cX12_dairy 102 = .ok (.iastore, 1) := by decide +kernel
theorem dX12_dairy_103 : decode cX12_dairy 103 = .ok (.aload_n 0, 1) := by decide +kernel
theorem dX12_dairy_104 : decode cX12_dairy 104 = .ok (.getfield 19, 3) := by decide +kernel
theorem dX12_dairy_107 : decode cX12_dairy 107 = .ok (.iload_n 1, 1) := by decide +kernel
theorem dX12_dairy_108 : decode cX12_dairy 108 = .ok (.iconst 0, 1) := by decide +kernel
theorem dX12_dairy_109 : decode cX12_dairy 109 = .ok (.iastore, 1) := by decide +kernel
theorem dX12_dairy_110 : decode cX12_dairy 110 = .ok (.aload_n 0, 1) := by decide +kernel
theorem dX12_dairy_111 : decode cX12_dairy 111 = .ok (.getfield 25, 3) := by decide +kernel
theorem dX12_dairy_114 : decode cX12_dairy 114 = .ok (.iload_n 1, 1) := by decide +kernel
theorem dX12_dairy_115 : decode cX12_dairy 115 = .ok (.iconst 0, 1) := by decide +kernel
theorem dX12_dairy_116 : decode cX12_dairy 116 = .ok (.iastore, 1) := by decide +kernel
theorem dX12_dairy_117 : decode cX12_dairy 117 = .ok (.iinc 1 1, 3) := by decide +kernel
theorem dX12_dairy_120 : decode cX12_dairy 120 = .ok (.goto (-87), 3) := by decide +kernel
theorem dX12_dairy_123 : decode cX12_dairy 123 = .ok (.iconst 0, 1) := by decide +kernel
theorem dX12_dairy_124 : decode cX12_dairy 124 = .ok (.istore_n 1, 1) := by decide +kernel
theorem dX12_dairy_125 : decode cX12_dairy 125 = .ok (.iload_n 1, 1) := by decide +kernel
theorem dX12_dairy_126 : decode cX12_dairy 126 = .ok (.aload_n 0, 1) := by decide +kernel
theorem dX12_dairy_127 : decode cX12_dairy 127 = .ok (.getfield 122, 3) := by decide +kernel
theorem dX12_dairy_130 : decode cX12_dairy 130 = .ok (.if_icmp .ge 33, 3) := by decide +kernel
theorem dX12_dairy_133 : decode cX12_dairy 133 = .ok (.aload_n 0, 1) := by decide +kernel
theorem dX12_dairy_134 : decode cX12_dairy 134 = .ok (.getfield 28, 3) := by decide +kernel
theorem dX12_dairy_137 : decode cX12_dairy 137 = .ok (.iload_n 1, 1) := by decide +kernel
theorem dX12_dairy_138 : decode cX12_dairy 138 = .ok (.aload_n 0, 1) := by decide +kernel
theorem dX12_dairy_139 : decode cX12_dairy 139 = .ok (.getfield 43, 3) := by decide +kernel
theorem dX12_dairy_142 : decode cX12_dairy 142 = .ok (.iconst 4, 1) := by decide +kernel
theorem dX12_dairy_143 : decode cX12_dairy 143 = .ok (.aload_n 0, 1) := by decide +kernel
theorem dX12_dairy_144 : decode cX12_dairy 144 = .ok (.getfield 119, 3) := by decide +kernel
theorem dX12_dairy_147 : decode cX12_dairy 147 = .ok (.imul, 1) := by decide +kernel
theorem dX12_dairy_148 : decode cX12_dairy 148 = .ok (.iconst 2, 1) := by decide +kernel
theorem dX12_dairy_149 : decode cX12_dairy 149 = .ok (.iload_n 1, 1) := by decide +kernel
theorem dX12_dairy_150 : decode cX12_dairy 150 = .ok (.imul, 1) := by decide +kernel
theorem dX12_dairy_151 : decode cX12_dairy 151 = .ok (.iadd, 1) := by decide +kernel
theorem dX12_dairy_152 : decode cX12_dairy 152 = .ok (.baload, 1) := by decide +kernel
theorem dX12_dairy_153 : decode cX12_dairy 153 = .ok (.invokestatic 99, 3) := by decide +kernel
theorem dX12_dairy_156 : decode cX12_dairy 156 = .ok (.iastore, 1) := by decide +kernel
theorem dX12_dairy_157 : decode cX12_dairy 157 = .ok (.iinc 1 1, 3) := by decide +kernel
theorem dX12_dairy_160 : decode cX12_dairy 160 = .ok (.goto (-35), 3) := by decide +kernel
theorem dX12_dairy_163 : decode cX12_dairy 163 = .ok (.iconst 0, 1) := by decide +kernel
theorem dX12_dairy_164 : decode cX12_dairy 164 = .ok (.istore_n 1, 1) := by decide +kernel
theorem dX12_dairy_165 : decode cX12_dairy 165 = .ok (.iload_n 1, 1) := by decide +kernel
theorem dX12_dairy_166 : decode cX12_dairy 166 = .ok (.bipush 20, 2) := by decide +kernel
theorem dX12_dairy_168 : decode cX12_dairy 168 = .ok (.if_icmp .ge 16, 3) := by decide +kernel
theorem dX12_dairy_171 : decode cX12_dairy 171 = .ok (.aload_n 0, 1) := by decide +kernel
theorem dX12_dairy_172 : decode cX12_dairy 172 = .ok (.getfield 31, 3) := by decide +kernel
theorem dX12_dairy_175 : decode cX12_dairy 175 = .ok (.iload_n 1, 1) := by decide +kernel
theorem dX12_dairy_176 : decode cX12_dairy 176 = .ok (.iconst 0, 1) := by decide +kernel
theorem dX12_dairy_177 : decode cX12_dairy 177 = .ok (.iastore, 1) := by decide +kernel
theorem dX12_dairy_178 : decode cX12_dairy 178 = .ok (.iinc 1 1, 3) := by decide +kernel
theorem dX12_dairy_181 : decode cX12_dairy 181 = .ok (.goto (-16), 3) := by decide +kernel
theorem dX12_dairy_184 : decode cX12_dairy 184 = .ok (.aload_n 0, 1) := by decide +kernel
theorem dX12_dairy_185 : decode cX12_dairy 185 = .ok (.iconst 0, 1) := by decide +kernel
theorem dX12_dairy_186 : decode cX12_dairy 186 = .ok (.putfield 125, 3) := by decide +kernel
theorem dX12_dairy_189 : decode cX12_dairy 189 = .ok (.aload_n 0, 1) := by decide +kernel
theorem dX12_dairy_190 : decode cX12_dairy 190 = .ok (.dup, 1) := by decide +kernel
theorem dX12_dairy_191 : decode cX12_dairy 191 = .ok (.getfield 128, 3) := by decide +kernel
theorem dX12_dairy_194 : decode cX12_dairy 194 = .ok (.iconst 1, 1) := by decide +kernel
theorem dX12_dairy_195 : decode cX12_dairy 195 = .ok (.iadd, 1) := by decide +kernel
theorem dX12_dairy_196 : decode cX12_dairy 196 = .ok (.putfield 128, 3) := by decide +kernel
theorem dX12_dairy_199 : decode cX12_dairy 199 = .ok (.aload_n 0, 1) := by decide +kernel
theorem dX12_dairy_200 : decode cX12_dairy 200 = .ok (.iconst 0, 1) := by decide +kernel
theorem dX12_dairy_201 : decode cX12_dairy 201 = .ok (.putfield 131, 3) := by decide +kernel
theorem dX12_dairy_204 : decode cX12_dairy 204 = .ok (.aload_n 0, 1) := by decide +kernel
theorem dX12_dairy_205 : decode cX12_dairy 205 = .ok (.iconst 0, 1) := by decide +kernel
theorem dX12_dairy_206 : decode cX12_dairy 206 = .ok (.putfield 81, 3) := by decide +kernel
theorem dX12_dairy_209 : decode cX12_dairy 209 = .ok (.aload_n 0, 1) := by decide +kernel
theorem dX12_dairy_210 : decode cX12_dairy 210 = .ok (.getfield 122, 3) := by decide +kernel
theorem dX12_dairy_213 : decode cX12_dairy 213 = .ok (.ireturn, 1) := by decide +kernel
set_option maxRecDepth 20000 in
theorem ggX12_isPan_X12_within : GoodIn wsX12_isPan wsX12_within := goodIn_r _ [5] (by decide +kernel) (by decide +kernel)
set_option maxRecDepth 20000 in
theorem gX12_isPan_X12_within : GoodIn wsX12_isPan (va_wsS RX12 77 yX12_within wsX12_within) := goodIn_app (goodIn_of _ (by decide +kernel)) ggX12_isPan_X12_within
theorem dX12_isPan_0 : decode cX12_isPan 0 = .ok (.iload_n 1, 1) := by decide +kernel
theorem dX12_isPan_1 : decode cX12_isPan 1 = .ok (.iconst 0, 1) := by decide +kernel
theorem dX12_isPan_2 : decode cX12_isPan 2 = .ok (.aload_n 0, 1) := by decide +kernel
theorem dX12_isPan_3 : decode cX12_isPan 3 = .ok (.getfield 119, 3) := by decide +kernel
theorem dX12_isPan_6 : decode cX12_isPan 6 = .ok (.iconst 1, 1) := by decide +kernel
theorem dX12_isPan_7 : decode cX12_isPan 7 = .ok (.isub, 1) := by decide +kernel
theorem dX12_isPan_8 : decode cX12_isPan 8 = .ok (.invokestatic 77, 3) := by decide +kernel
theorem dX12_isPan_11 : decode cX12_isPan 11 = .ok (.ireturn, 1) := by decide +kernel
set_option maxRecDepth 20000 in
theorem ggX12_isChild_X12_within : GoodIn wsX12_isChild wsX12_within := goodIn_r _ [5] (by decide +kernel) (by decide +kernel)
set_option maxRecDepth 20000 in
theorem gX12_isChild_X12_within : GoodIn wsX12_isChild (va_wsS RX12 77 yX12_within wsX12_within) := goodIn_app (goodIn_of _ (by decide +kernel)) ggX12_isChild_X12_within
theorem dX12_isChild_0 : decode cX12_isChild 0 = .ok (.iload_n 1, 1) := by decide +kernel
theorem dX12_isChild_1 : decode cX12_isChild 1 = .ok (.iconst 0, 1) := by decide +kernel
theorem dX12_isChild_2 : decode cX12_isChild 2 = .ok (.aload_n 0, 1) := by decide +kernel
theorem dX12_isChild_3 : decode cX12_isChild 3 = .ok (.getfield 122, 3) := by decide +kernel
theorem dX12_isChild_6 : decode cX12_isChild 6 = .ok (.iconst 1, 1) := by decide +kernel
theorem dX12_isChild_7 : decode cX12_isChild 7 = .ok (.isub, 1) := by decide +kernel
theorem dX12_isChild_8 : decode cX12_isChild 8 = .ok (.invokestatic 77, 3) := by decide +kernel
theorem dX12_isChild_11 : decode cX12_isChild 11 = .ok (.ireturn, 1) := by decide +kernel
theorem dX12_topOf_0 : decode cX12_topOf 0 = .ok (.aload_n 0, 1) := by decide +kernel
theorem dX12_topOf_1 : decode cX12_topOf 1 = .ok (.getfield 19, 3) := by decide +kernel
theorem dX12_topOf_4 : decode cX12_topOf 4 = .ok (.iload_n 1, 1) := by decide +kernel
theorem dX12_topOf_5 : decode cX12_topOf 5 = .ok (.iaload, 1) := by decide +kernel
theorem dX12_topOf_6 : decode cX12_topOf 6 = .ok (.ifCond .le 7, 3) := by decide +kernel
theorem dX12_topOf_9 : decode cX12_topOf 9 = .ok (.iconst 2, 1) := by decide +kernel
theorem dX12_topOf_10 : decode cX12_topOf 10 = .ok (.goto 30, 3) := by decide +kernel
theorem dX12_topOf_13 : decode cX12_topOf 13 = .ok (.aload_n 0, 1) := by decide +kernel
theorem dX12_topOf_14 : decode cX12_topOf 14 = .ok (.getfield 16, 3) := by decide +kernel
theorem dX12_topOf_17 : decode cX12_topOf 17 = .ok (.iload_n 1, 1) := by decide +kernel
theorem dX12_topOf_18 : decode cX12_topOf 18 = .ok (.iaload, 1) := by decide +kernel
theorem dX12_topOf_19 : decode cX12_topOf 19 = .ok (.ifCond .le 7, 3) := by decide +kernel
theorem dX12_topOf_22 : decode cX12_topOf 22 = .ok (.iconst 1, 1) := by decide +kernel
theorem dX12_topOf_23 : decode cX12_topOf 23 = .ok (.goto 17, 3) := by decide +kernel
theorem dX12_topOf_26 : decode cX12_topOf 26 = .ok (.aload_n 0, 1) := by decide +kernel
theorem dX12_topOf_27 : decode cX12_topOf 27 = .ok (.getfield 22, 3) := by decide +kernel
theorem dX12_topOf_30 : decode cX12_topOf 30 = .ok (.iload_n 1, 1) := by decide +kernel
theorem dX12_topOf_31 : decode cX12_topOf 31 = .ok (.iaload, 1) := by decide +kernel
theorem dX12_topOf_32 : decode cX12_topOf 32 = .ok (.ifCond .le 7, 3) := by decide +kernel
theorem dX12_topOf_35 : decode cX12_topOf 35 = .ok (.iconst 3, 1) := by decide +kernel
theorem dX12_topOf_36 : decode cX12_topOf 36 = .ok (.goto 4, 3) := by decide +kernel
theorem dX12_topOf_39 : decode cX12_topOf 39 = .ok (.iconst (-1), 1) := by decide +kernel
theorem dX12_topOf_40 : decode cX12_topOf 40 = .ok (.ireturn, 1) := by decide +kernel
theorem dX12_worthOf_0 : decode cX12_worthOf 0 = .ok (.iload_n 2, 1) := by decide +kernel
theorem dX12_worthOf_1 : decode cX12_worthOf 1 = .ok (.iconst 2, 1) := by decide +kernel
theorem dX12_worthOf_2 : decode cX12_worthOf 2 = .ok (.if_icmp .ne 7, 3) := by decide +kernel
theorem dX12_worthOf_5 : decode cX12_worthOf 5 = .ok (.iconst 4, 1) := by decide +kernel
theorem dX12_worthOf_6 : decode cX12_worthOf 6 = .ok (.goto 13, 3) := by decide +kernel
theorem dX12_worthOf_9 : decode cX12_worthOf 9 = .ok (.iload_n 2, 1) := by decide +kernel
theorem dX12_worthOf_10 : decode cX12_worthOf 10 = .ok (.iconst 1, 1) := by decide +kernel
theorem dX12_worthOf_11 : decode cX12_worthOf 11 = .ok (.if_icmp .ne 7, 3) := by decide +kernel
theorem dX12_worthOf_14 : decode cX12_worthOf 14 = .ok (.iconst 2, 1) := by decide +kernel
theorem dX12_worthOf_15 : decode cX12_worthOf 15 = .ok (.goto 4, 3) := by decide +kernel
theorem dX12_worthOf_18 : decode cX12_worthOf 18 = .ok (.iconst 1, 1) := by decide +kernel
theorem dX12_worthOf_19 : decode cX12_worthOf 19 = .ok (.istore_n 3, 1) := by decide +kernel
theorem dX12_worthOf_20 : decode cX12_worthOf 20 = .ok (.aload_n 0, 1) := by decide +kernel
theorem dX12_worthOf_21 : decode cX12_worthOf 21 = .ok (.getfield 28, 3) := by decide +kernel
theorem dX12_worthOf_24 : decode cX12_worthOf 24 = .ok (.iload_n 1, 1) := by decide +kernel
theorem dX12_worthOf_25 : decode cX12_worthOf 25 = .ok (.iaload, 1) := by decide +kernel
theorem dX12_worthOf_26 : decode cX12_worthOf 26 = .ok (.tableswitch 94 1 4 #[30, 50, 70, 82], 30) := by decide +kernel
theorem dX12_worthOf_56 : decode cX12_worthOf 56 = .ok (.iload_n 2, 1) := by decide +kernel
theorem dX12_worthOf_57 : decode cX12_worthOf 57 = .ok (.iconst 1, 1) := by decide +kernel
theorem dX12_worthOf_58 : decode cX12_worthOf 58 = .ok (.if_icmp .ne 7, 3) := by decide +kernel
theorem dX12_worthOf_61 : decode cX12_worthOf 61 = .ok (.iconst 4, 1) := by decide +kernel
theorem dX12_worthOf_62 : decode cX12_worthOf 62 = .ok (.goto 13, 3) := by decide +kernel
theorem dX12_worthOf_65 : decode cX12_worthOf 65 = .ok (.iload_n 2, 1) := by decide +kernel
theorem dX12_worthOf_66 : decode cX12_worthOf 66 = .ok (.iconst 3, 1) := by decide +kernel
theorem dX12_worthOf_67 : decode cX12_worthOf 67 = .ok (.if_icmp .ne 7, 3) := by decide +kernel
theorem dX12_worthOf_70 : decode cX12_worthOf 70 = .ok (.iconst 0, 1) := by decide +kernel
theorem dX12_worthOf_71 : decode cX12_worthOf 71 = .ok (.goto 4, 3) := by decide +kernel
theorem dX12_worthOf_74 : decode cX12_worthOf 74 = .ok (.iload_n 3, 1) := by decide +kernel
theorem dX12_worthOf_75 : decode cX12_worthOf 75 = .ok (.ireturn, 1) := by decide +kernel
theorem dX12_worthOf_76 : decode cX12_worthOf 76 = .ok (.iload_n 2, 1) := by decide +kernel
theorem dX12_worthOf_77 : decode cX12_worthOf 77 = .ok (.iconst 1, 1) := by decide +kernel
theorem dX12_worthOf_78 : decode cX12_worthOf 78 = .ok (.if_icmp .ne 7, 3) := by decide +kernel
theorem dX12_worthOf_81 : decode cX12_worthOf 81 = .ok (.iconst 1, 1) := by decide +kernel
theorem dX12_worthOf_82 : decode cX12_worthOf 82 = .ok (.goto 13, 3) := by decide +kernel
theorem dX12_worthOf_85 : decode cX12_worthOf 85 = .ok (.iload_n 2, 1) := by decide +kernel
theorem dX12_worthOf_86 : decode cX12_worthOf 86 = .ok (.iconst 3, 1) := by decide +kernel
theorem dX12_worthOf_87 : decode cX12_worthOf 87 = .ok (.if_icmp .ne 7, 3) := by decide +kernel
theorem dX12_worthOf_90 : decode cX12_worthOf 90 = .ok (.iconst 2, 1) := by decide +kernel
theorem dX12_worthOf_91 : decode cX12_worthOf 91 = .ok (.goto 4, 3) := by decide +kernel
theorem dX12_worthOf_94 : decode cX12_worthOf 94 = .ok (.iload_n 3, 1) := by decide +kernel
theorem dX12_worthOf_95 : decode cX12_worthOf 95 = .ok (.ireturn, 1) := by decide +kernel
theorem dX12_worthOf_96 : decode cX12_worthOf 96 = .ok (.iload_n 2, 1) := by decide +kernel
theorem dX12_worthOf_97 : decode cX12_worthOf 97 = .ok (.iconst 2, 1) := by decide +kernel
theorem dX12_worthOf_98 : decode cX12_worthOf 98 = .ok (.if_icmp .ne 8, 3) := by decide +kernel
theorem dX12_worthOf_101 : decode cX12_worthOf 101 = .ok (.bipush 8, 2) := by decide +kernel
theorem dX12_worthOf_103 : decode cX12_worthOf 103 = .ok (.goto 4, 3) := by decide +kernel
theorem dX12_worthOf_106 : decode cX12_worthOf 106 = .ok (.iload_n 3, 1) := by decide +kernel
theorem dX12_worthOf_107 : decode cX12_worthOf 107 = .ok (.ireturn, 1) := by decide +kernel
theorem dX12_worthOf_108 : decode cX12_worthOf 108 = .ok (.iload_n 2, 1) := by decide +kernel
theorem dX12_worthOf_109 : decode cX12_worthOf 109 = .ok (.iconst 2, 1) := by decide +kernel
theorem dX12_worthOf_110 : decode cX12_worthOf 110 = .ok (.if_icmp .ne 8, 3) := by decide +kernel
theorem dX12_worthOf_113 : decode cX12_worthOf 113 = .ok (.bipush 16, 2) := by decide +kernel
theorem dX12_worthOf_115 : decode cX12_worthOf 115 = .ok (.goto 4, 3) := by decide +kernel
theorem dX12_worthOf_118 : decode cX12_worthOf 118 = .ok (.iconst 0, 1) := by decide +kernel
theorem dX12_worthOf_119 : decode cX12_worthOf 119 = .ok (.ireturn, 1) := by decide +kernel
theorem dX12_worthOf_120 : decode cX12_worthOf 120 = .ok (.iload_n 3, 1) := by decide +kernel
theorem dX12_worthOf_121 : decode cX12_worthOf 121 = .ok (.ireturn, 1) := by decide +kernel
set_option maxRecDepth 20000 in
theorem ggX12_worthHad_X12_worthOf : GoodIn wsX12_worthHad wsX12_worthOf := goodIn_r _ [6, 7, 8, 9, 10, 11, 12, 13, 14, 15, 16, 17, 18, 19, 20, 21, 22, 23, 24, 25, 26, 27, 28, 29, 30, 31, 32, 33, 34, 35, 36, 37, 38, 39, 40, 41, 42, 43, 44, 45] (by decide +kernel) (by decide +kernel)
set_option maxRecDepth 20000 in
theorem gX12_worthHad_X12_worthOf : GoodIn wsX12_worthHad (wsV RX12 134 RX12 yX12_worthOf wsX12_worthOf) := goodIn_app (goodIn_of _ (by decide +kernel)) ggX12_worthHad_X12_worthOf
theorem dX12_worthHad_0 : decode cX12_worthHad 0 = .ok (.iconst 0, 1) := by decide +kernel
theorem dX12_worthHad_1 : decode cX12_worthHad 1 = .ok (.istore_n 2, 1) := by decide +kernel
theorem dX12_worthHad_2 : decode cX12_worthHad 2 = .ok (.iconst 1, 1) := by decide +kernel
theorem dX12_worthHad_3 : decode cX12_worthHad 3 = .ok (.istore_n 3, 1) := by decide +kernel
theorem dX12_worthHad_4 : decode cX12_worthHad 4 = .ok (.iload_n 3, 1) := by decide +kernel
theorem dX12_worthHad_5 : decode cX12_worthHad 5 = .ok (.iconst 3, 1) := by decide +kernel
theorem dX12_worthHad_6 : decode cX12_worthHad 6 = .ok (.if_icmp .gt 29, 3) := by decide +kernel
theorem dX12_worthHad_9 : decode cX12_worthHad 9 = .ok (.iload_n 2, 1) := by decide +kernel
theorem dX12_worthHad_10 : decode cX12_worthHad 10 = .ok (.aload_n 0, 1) := by decide +kernel
theorem dX12_worthHad_11 : decode cX12_worthHad 11 = .ok (.getfield 31, 3) := by decide +kernel
theorem dX12_worthHad_14 : decode cX12_worthHad 14 = .ok (.iconst 4, 1) := by decide +kernel
theorem dX12_worthHad_15 : decode cX12_worthHad 15 = .ok (.iload_n 1, 1) := by decide +kernel
theorem dX12_worthHad_16 : decode cX12_worthHad 16 = .ok (.imul, 1) := by decide +kernel
theorem dX12_worthHad_17 : decode cX12_worthHad 17 = .ok (.iload_n 3, 1) := by decide +kernel
theorem dX12_worthHad_18 : decode cX12_worthHad 18 = .ok (.iadd, 1) := by decide +kernel
theorem dX12_worthHad_19 : decode cX12_worthHad 19 = .ok (.iaload, 1) := by decide +kernel
theorem dX12_worthHad_20 : decode cX12_worthHad 20 = .ok (.aload_n 0, 1) := by decide +kernel
theorem dX12_worthHad_21 : decode cX12_worthHad 21 = .ok (.iload_n 1, 1) := by decide +kernel
theorem dX12_worthHad_22 : decode cX12_worthHad 22 = .ok (.iload_n 3, 1) := by decide +kernel
theorem dX12_worthHad_23 : decode cX12_worthHad 23 = .ok (.invokevirtual 134, 3) := by decide +kernel
theorem dX12_worthHad_26 : decode cX12_worthHad 26 = .ok (.imul, 1) := by decide +kernel
theorem dX12_worthHad_27 : decode cX12_worthHad 27 = .ok (.iadd, 1) := by decide +kernel
theorem dX12_worthHad_28 : decode cX12_worthHad 28 = .ok (.istore_n 2, 1) := by decide +kernel
theorem dX12_worthHad_29 : decode cX12_worthHad 29 = .ok (.iinc 3 1, 3) := by decide +kernel
theorem dX12_worthHad_32 : decode cX12_worthHad 32 = .ok (.goto (-28), 3) := by decide +kernel
theorem dX12_worthHad_35 : decode cX12_worthHad 35 = .ok (.iload_n 2, 1) := by decide +kernel
theorem dX12_worthHad_36 : decode cX12_worthHad 36 = .ok (.ireturn, 1) := by decide +kernel
set_option maxRecDepth 20000 in
theorem ggX12_panNow_X12_topOf : GoodIn wsX12_panNow wsX12_topOf := goodIn_r _ [11, 3, 2, 4, 36, 37, 38, 39, 40, 41, 42, 43, 44, 45, 46, 47, 48, 49, 50, 51, 52, 53, 54, 55, 56, 57, 58, 59, 60, 61, 62, 63, 64, 65, 66, 67, 68, 69, 70, 71, 72, 73] (by decide +kernel) (by decide +kernel)
set_option maxRecDepth 20000 in
theorem gX12_panNow_X12_topOf : GoodIn wsX12_panNow (wsV RX12 138 RX12 yX12_topOf wsX12_topOf) := goodIn_app (goodIn_of _ (by decide +kernel)) ggX12_panNow_X12_topOf
set_option maxRecDepth 20000 in
theorem ggX12_panNow_X12_fatsOf : GoodIn wsX12_panNow wsX12_fatsOf := goodIn_r _ [15, 16, 17, 18, 19, 20, 21, 22, 10, 23, 5, 2, 3, 36, 37, 38, 39, 40, 41, 42, 43, 44, 45, 46, 47, 48, 49, 50, 51, 52, 53, 54, 55, 56, 57, 58, 59, 60, 61, 62, 63, 64, 65, 66, 67, 68, 69, 70, 71, 72, 73] (by decide +kernel) (by decide +kernel)
set_option maxRecDepth 20000 in
theorem gX12_panNow_X12_fatsOf : GoodIn wsX12_panNow (wsV RX12 141 RX12 yX12_fatsOf wsX12_fatsOf) := goodIn_app (goodIn_of _ (by decide +kernel)) ggX12_panNow_X12_fatsOf
set_option maxRecDepth 20000 in
theorem ggX12_panNow_X12_lookFor : GoodIn wsX12_panNow wsX12_lookFor := goodIn_r _ [27, 28, 12, 13, 14, 10, 15, 16, 17, 18, 19, 20, 21, 22, 23, 5, 2, 3, 29, 30, 31, 32, 33, 34, 35, 36, 37, 38, 39, 40, 41, 42, 43, 44, 45, 46, 47, 48, 49, 50, 51, 52, 53, 54, 55, 56, 57, 58, 59, 60, 61, 62, 63, 64, 65, 66, 67, 68, 69, 70, 71, 72, 73] (by decide +kernel) (by decide +kernel)
set_option maxRecDepth 20000 in
theorem gX12_panNow_X12_lookFor : GoodIn wsX12_panNow (wsV RX12 144 RX12 yX12_lookFor wsX12_lookFor) := goodIn_app (goodIn_of _ (by decide +kernel)) ggX12_panNow_X12_lookFor
theorem dX12_panNow_0 : decode cX12_panNow 0 = .ok (.iload_n 2, 1) := by decide +kernel
theorem dX12_panNow_1 : decode cX12_panNow 1 = .ok (.tableswitch 101 0 7 #[47, 54, 61, 68, 75, 82, 89, 95], 47) := by decide +kernel
theorem dX12_panNow_48 : decode cX12_panNow 48 = .ok (.aload_n 0, 1) := by decide +kernel
theorem dX12_panNow_49 : decode cX12_panNow 49 = .ok (.getfield 13, 3) := by decide +kernel
theorem dX12_panNow_52 : decode cX12_panNow 52 = .ok (.iload_n 1, 1) := by decide +kernel
theorem dX12_panNow_53 : decode cX12_panNow 53 = .ok (.iaload, 1) := by decide +kernel
theorem dX12_panNow_54 : decode cX12_panNow 54 = .ok (.ireturn, 1) := by decide +kernel
theorem dX12_panNow_55 : decode cX12_panNow 55 = .ok (.aload_n 0, 1) := by decide +kernel
theorem dX12_panNow_56 : decode cX12_panNow 56 = .ok (.getfield 16, 3) := by decide +kernel
theorem dX12_panNow_59 : decode cX12_panNow 59 = .ok (.iload_n 1, 1) := by decide +kernel
theorem dX12_panNow_60 : decode cX12_panNow 60 = .ok (.iaload, 1) := by decide +kernel
theorem dX12_panNow_61 : decode cX12_panNow 61 = .ok (.ireturn, 1) := by decide +kernel
theorem dX12_panNow_62 : decode cX12_panNow 62 = .ok (.aload_n 0, 1) := by decide +kernel
theorem dX12_panNow_63 : decode cX12_panNow 63 = .ok (.getfield 19, 3) := by decide +kernel
theorem dX12_panNow_66 : decode cX12_panNow 66 = .ok (.iload_n 1, 1) := by decide +kernel
theorem dX12_panNow_67 : decode cX12_panNow 67 = .ok (.iaload, 1) := by decide +kernel
theorem dX12_panNow_68 : decode cX12_panNow 68 = .ok (.ireturn, 1) := by decide +kernel
theorem dX12_panNow_69 : decode cX12_panNow 69 = .ok (.aload_n 0, 1) := by decide +kernel
theorem dX12_panNow_70 : decode cX12_panNow 70 = .ok (.getfield 22, 3) := by decide +kernel
theorem dX12_panNow_73 : decode cX12_panNow 73 = .ok (.iload_n 1, 1) := by decide +kernel
theorem dX12_panNow_74 : decode cX12_panNow 74 = .ok (.iaload, 1) := by decide +kernel
theorem dX12_panNow_75 : decode cX12_panNow 75 = .ok (.ireturn, 1) := by decide +kernel
theorem dX12_panNow_76 : decode cX12_panNow 76 = .ok (.aload_n 0, 1) := by decide +kernel
theorem dX12_panNow_77 : decode cX12_panNow 77 = .ok (.getfield 7, 3) := by decide +kernel
theorem dX12_panNow_80 : decode cX12_panNow 80 = .ok (.iload_n 1, 1) := by decide +kernel
theorem dX12_panNow_81 : decode cX12_panNow 81 = .ok (.iaload, 1) := by decide +kernel
theorem dX12_panNow_82 : decode cX12_panNow 82 = .ok (.ireturn, 1) := by decide +kernel
theorem dX12_panNow_83 : decode cX12_panNow 83 = .ok (.aload_n 0, 1) := by decide +kernel
theorem dX12_panNow_84 : decode cX12_panNow 84 = .ok (.getfield 25, 3) := by decide +kernel
theorem dX12_panNow_87 : decode cX12_panNow 87 = .ok (.iload_n 1, 1) := by decide +kernel
theorem dX12_panNow_88 : decode cX12_panNow 88 = .ok (.iaload, 1) := by decide +kernel
theorem dX12_panNow_89 : decode cX12_panNow 89 = .ok (.ireturn, 1) := by decide +kernel
theorem dX12_panNow_90 : decode cX12_panNow 90 = .ok (.aload_n 0, 1) := by decide +kernel
theorem dX12_panNow_91 : decode cX12_panNow 91 = .ok (.iload_n 1, 1) := by decide +kernel
theorem dX12_panNow_92 : decode cX12_panNow 92 = .ok (.invokevirtual 138, 3) := by decide +kernel
theorem dX12_panNow_95 : decode cX12_panNow 95 = .ok (.ireturn, 1) := by decide +kernel
theorem dX12_panNow_96 : decode cX12_panNow 96 = .ok (.aload_n 0, 1) := by decide +kernel
theorem dX12_panNow_97 : decode cX12_panNow 97 = .ok (.iload_n 1, 1) := by decide +kernel
theorem dX12_panNow_98 : decode cX12_panNow 98 = .ok (.invokevirtual 141, 3) := by decide +kernel
theorem dX12_panNow_101 : decode cX12_panNow 101 = .ok (.ireturn, 1) := by decide +kernel
theorem dX12_panNow_102 : decode cX12_panNow 102 = .ok (.aload_n 0, 1) := by decide +kernel
theorem dX12_panNow_103 : decode cX12_panNow 103 = .ok (.iload_n 1, 1) := by decide +kernel
theorem dX12_panNow_104 : decode cX12_panNow 104 = .ok (.invokevirtual 144, 3) := by decide +kernel
theorem dX12_panNow_107 : decode cX12_panNow 107 = .ok (.ireturn, 1) := by decide +kernel
set_option maxRecDepth 20000 in
theorem ggX12_pan_X12_isPan : GoodIn wsX12_pan wsX12_isPan := goodIn_r _ [5, 6, 7, 8, 4, 9, 48, 49, 50, 51, 52, 53, 54, 55, 56, 57, 58, 59, 60, 61, 62, 63, 64, 65, 66, 67, 68, 69, 70, 71, 72, 73, 74, 75, 76, 77, 78, 79, 80, 81, 82, 83, 84, 85] (by decide +kernel) (by decide +kernel)
set_option maxRecDepth 20000 in
theorem gX12_pan_X12_isPan : GoodIn wsX12_pan (wsV RX12 147 RX12 yX12_isPan wsX12_isPan) := goodIn_app (goodIn_of _ (by decide +kernel)) ggX12_pan_X12_isPan
set_option maxRecDepth 20000 in
theorem ggX12_pan_X12_within : GoodIn wsX12_pan wsX12_within := goodIn_r _ [9] (by decide +kernel) (by decide +kernel)
set_option maxRecDepth 20000 in
theorem gX12_pan_X12_within : GoodIn wsX12_pan (va_wsS RX12 77 yX12_within wsX12_within) := goodIn_app (goodIn_of _ (by decide +kernel)) ggX12_pan_X12_within
set_option maxRecDepth 20000 in
theorem ggX12_pan_X12_panNow : GoodIn wsX12_pan wsX12_panNow := goodIn_r _ [13, 14, 15, 16, 17, 18, 19, 20, 21, 22, 4, 23, 24, 25, 26, 27, 28, 29, 30, 31, 32, 33, 34, 35, 36, 37, 38, 39, 40, 41, 42, 43, 44, 45, 46, 47, 48, 49, 50, 51, 52, 53, 54, 55, 56, 57, 58, 59, 60, 61, 62, 63, 64, 65, 66, 67, 68, 69, 70, 71, 72, 73, 74, 75, 76, 77, 78, 79, 80, 81, 82, 83, 84, 85] (by decide +kernel) (by decide +kernel)
set_option maxRecDepth 20000 in
theorem gX12_pan_X12_panNow : GoodIn wsX12_pan (wsV RX12 150 RX12 yX12_panNow wsX12_panNow) := goodIn_app (goodIn_of _ (by decide +kernel)) ggX12_pan_X12_panNow
theorem dX12_pan_0 : decode cX12_pan 0 = .ok (.aload_n 0, 1) := by decide +kernel
theorem dX12_pan_1 : decode cX12_pan 1 = .ok (.iload_n 1, 1) := by decide +kernel
theorem dX12_pan_2 : decode cX12_pan 2 = .ok (.invokevirtual 147, 3) := by decide +kernel
theorem dX12_pan_5 : decode cX12_pan 5 = .ok (.ifCond .ne 8, 3) := by decide +kernel
theorem dX12_pan_8 : decode cX12_pan 8 = .ok (.bipush (-101), 2) := by decide +kernel
theorem dX12_pan_10 : decode cX12_pan 10 = .ok (.goto 24, 3) := by decide +kernel
theorem dX12_pan_13 : decode cX12_pan 13 = .ok (.iload_n 2, 1) := by decide +kernel
theorem dX12_pan_14 : decode cX12_pan 14 = .ok (.iconst 0, 1) := by decide +kernel
theorem dX12_pan_15 : decode cX12_pan 15 = .ok (.bipush 8, 2) := by decide +kernel
theorem dX12_pan_17 : decode cX12_pan 17 = .ok (.invokestatic 77, 3) := by decide +kernel
theorem dX12_pan_20 : decode cX12_pan 20 = .ok (.ifCond .eq 12, 3) := by decide +kernel
theorem dX12_pan_23 : decode cX12_pan 23 = .ok (.aload_n 0, 1) := by decide +kernel
theorem dX12_pan_24 : decode cX12_pan 24 = .ok (.iload_n 1, 1) := by decide +kernel
theorem dX12_pan_25 : decode cX12_pan 25 = .ok (.iload_n 2, 1) := by decide +kernel
theorem dX12_pan_26 : decode cX12_pan 26 = .ok (.invokevirtual 150, 3) := by decide +kernel
theorem dX12_pan_29 : decode cX12_pan 29 = .ok (.goto 5, 3) := by decide +kernel
theorem dX12_pan_32 : decode cX12_pan 32 = .ok (.bipush (-102), 2) := by decide +kernel
theorem dX12_pan_34 : decode cX12_pan 34 = .ok (.ireturn, 1) := by decide +kernel
set_option maxRecDepth 20000 in
theorem ggX12_childNow_X12_worthOf : GoodIn wsX12_childNow wsX12_worthOf := goodIn_r _ [7, 1, 12, 13, 14, 15, 16, 17, 18, 19, 20, 21, 22, 23, 24, 25, 26, 27, 28, 29, 30, 31, 32, 33, 34, 35, 36, 37, 38, 39, 40, 41, 42, 43, 44, 45, 46, 47, 48, 49] (by decide +kernel) (by decide +kernel)
set_option maxRecDepth 20000 in
theorem gX12_childNow_X12_worthOf : GoodIn wsX12_childNow (wsV RX12 134 RX12 yX12_worthOf wsX12_worthOf) := goodIn_app (goodIn_of _ (by decide +kernel)) ggX12_childNow_X12_worthOf
set_option maxRecDepth 20000 in
theorem ggX12_childNow_X12_worthHad : GoodIn wsX12_childNow wsX12_worthHad := goodIn_r _ [11, 2, 3, 4, 5, 6, 7, 1, 12, 13, 14, 15, 16, 17, 18, 19, 20, 21, 22, 23, 24, 25, 26, 27, 28, 29, 30, 31, 32, 33, 34, 35, 36, 37, 38, 39, 40, 41, 42, 43, 44, 45, 46, 47, 48, 49] (by decide +kernel) (by decide +kernel)
set_option maxRecDepth 20000 in
theorem gX12_childNow_X12_worthHad : GoodIn wsX12_childNow (wsV RX12 153 RX12 yX12_worthHad wsX12_worthHad) := goodIn_app (goodIn_of _ (by decide +kernel)) ggX12_childNow_X12_worthHad
theorem dX12_childNow_0 : decode cX12_childNow 0 = .ok (.iload_n 2, 1) := by decide +kernel
theorem dX12_childNow_1 : decode cX12_childNow 1 = .ok (.bipush 10, 2) := by decide +kernel
theorem dX12_childNow_3 : decode cX12_childNow 3 = .ok (.if_icmp .le 13, 3) := by decide +kernel
theorem dX12_childNow_6 : decode cX12_childNow 6 = .ok (.aload_n 0, 1) := by decide +kernel
theorem dX12_childNow_7 : decode cX12_childNow 7 = .ok (.iload_n 1, 1) := by decide +kernel
theorem dX12_childNow_8 : decode cX12_childNow 8 = .ok (.iload_n 2, 1) := by decide +kernel
theorem dX12_childNow_9 : decode cX12_childNow 9 = .ok (.bipush 10, 2) := by decide +kernel
theorem dX12_childNow_11 : decode cX12_childNow 11 = .ok (.isub, 1) := by decide +kernel
theorem dX12_childNow_12 : decode cX12_childNow 12 = .ok (.invokevirtual 134, 3) := by decide +kernel
theorem dX12_childNow_15 : decode cX12_childNow 15 = .ok (.ireturn, 1) := by decide +kernel
theorem dX12_childNow_16 : decode cX12_childNow 16 = .ok (.iload_n 2, 1) := by decide +kernel
theorem dX12_childNow_17 : decode cX12_childNow 17 = .ok (.ifCond .ne 12, 3) := by decide +kernel
theorem dX12_childNow_20 : decode cX12_childNow 20 = .ok (.aload_n 0, 1) := by decide +kernel
theorem dX12_childNow_21 : decode cX12_childNow 21 = .ok (.getfield 28, 3) := by decide +kernel
theorem dX12_childNow_24 : decode cX12_childNow 24 = .ok (.iload_n 1, 1) := by decide +kernel
theorem dX12_childNow_25 : decode cX12_childNow 25 = .ok (.iaload, 1) := by decide +kernel
theorem dX12_childNow_26 : decode cX12_childNow 26 = .ok (.goto 26, 3) := by decide +kernel
theorem dX12_childNow_29 : decode cX12_childNow 29 = .ok (.iload_n 2, 1) := by decide +kernel
theorem dX12_childNow_30 : decode cX12_childNow 30 = .ok (.iconst 4, 1) := by decide +kernel
theorem dX12_childNow_31 : decode cX12_childNow 31 = .ok (.if_icmp .ne 11, 3) := by decide +kernel
theorem dX12_childNow_34 : decode cX12_childNow 34 = .ok (.aload_n 0, 1) := by decide +kernel
theorem dX12_childNow_35 : decode cX12_childNow 35 = .ok (.iload_n 1, 1) := by decide +kernel
theorem dX12_childNow_36 : decode cX12_childNow 36 = .ok (.invokevirtual 153, 3) := by decide +kernel
theorem dX12_childNow_39 : decode cX12_childNow 39 = .ok (.goto 13, 3) := by decide +kernel
theorem dX12_childNow_42 : decode cX12_childNow 42 = .ok (.aload_n 0, 1) := by decide +kernel
theorem dX12_childNow_43 : decode cX12_childNow 43 = .ok (.getfield 31, 3) := by decide +kernel
theorem dX12_childNow_46 : decode cX12_childNow 46 = .ok (.iconst 4, 1) := by decide +kernel
theorem dX12_childNow_47 : decode cX12_childNow 47 = .ok (.iload_n 1, 1) := by decide +kernel
theorem dX12_childNow_48 : decode cX12_childNow 48 = .ok (.imul, 1) := by decide +kernel
theorem dX12_childNow_49 : decode cX12_childNow 49 = .ok (.iload_n 2, 1) := by decide +kernel
theorem dX12_childNow_50 : decode cX12_childNow 50 = .ok (.iadd, 1) := by decide +kernel
theorem dX12_childNow_51 : decode cX12_childNow 51 = .ok (.iaload, 1) := by decide +kernel
theorem dX12_childNow_52 : decode cX12_childNow 52 = .ok (.ireturn, 1) := by decide +kernel
set_option maxRecDepth 20000 in
theorem ggX12_child_X12_isChild : GoodIn wsX12_child wsX12_isChild := goodIn_r _ [5, 6, 7, 8, 4, 9, 24, 25, 26, 27, 28, 29, 30, 31, 32, 33, 34, 35, 36, 37, 38, 39, 40, 41, 42, 43, 44, 45, 46, 47, 48, 49, 50, 51, 52, 53, 54, 55, 56, 57, 58, 59, 60, 61] (by decide +kernel) (by decide +kernel)
set_option maxRecDepth 20000 in
theorem gX12_child_X12_isChild : GoodIn wsX12_child (wsV RX12 156 RX12 yX12_isChild wsX12_isChild) := goodIn_app (goodIn_of _ (by decide +kernel)) ggX12_child_X12_isChild
set_option maxRecDepth 20000 in
theorem ggX12_child_X12_within : GoodIn wsX12_child wsX12_within := goodIn_r _ [9] (by decide +kernel) (by decide +kernel)
set_option maxRecDepth 20000 in
theorem gX12_child_X12_within : GoodIn wsX12_child (va_wsS RX12 77 yX12_within wsX12_within) := goodIn_app (goodIn_of _ (by decide +kernel)) ggX12_child_X12_within
set_option maxRecDepth 20000 in
theorem ggX12_child_X12_childNow : GoodIn wsX12_child wsX12_childNow := goodIn_r _ [13, 14, 15, 16, 17, 18, 4, 19, 20, 21, 22, 23, 24, 25, 26, 27, 28, 29, 30, 31, 32, 33, 34, 35, 36, 37, 38, 39, 40, 41, 42, 43, 44, 45, 46, 47, 48, 49, 50, 51, 52, 53, 54, 55, 56, 57, 58, 59, 60, 61] (by decide +kernel) (by decide +kernel)
set_option maxRecDepth 20000 in
theorem gX12_child_X12_childNow : GoodIn wsX12_child (wsV RX12 159 RX12 yX12_childNow wsX12_childNow) := goodIn_app (goodIn_of _ (by decide +kernel)) ggX12_child_X12_childNow
theorem dX12_child_0 : decode cX12_child 0 = .ok (.aload_n 0, 1) := by decide +kernel
theorem dX12_child_1 : decode cX12_child 1 = .ok (.iload_n 1, 1) := by decide +kernel
theorem dX12_child_2 : decode cX12_child 2 = .ok (.invokevirtual 156, 3) := by decide +kernel
theorem dX12_child_5 : decode cX12_child 5 = .ok (.ifCond .ne 6, 3) := by decide +kernel
theorem dX12_child_8 : decode cX12_child 8 = .ok (.bipush (-101), 2) := by decide +kernel
theorem dX12_child_10 : decode cX12_child 10 = .ok (.ireturn, 1) := by decide +kernel
theorem dX12_child_11 : decode cX12_child 11 = .ok (.iload_n 2, 1) := by decide +kernel
theorem dX12_child_12 : decode cX12_child 12 = .ok (.iconst 0, 1) := by decide +kernel
theorem dX12_child_13 : decode cX12_child 13 = .ok (.iconst 4, 1) := by decide +kernel
theorem dX12_child_14 : decode cX12_child 14 = .ok (.invokestatic 77, 3) := by decide +kernel
theorem dX12_child_17 : decode cX12_child 17 = .ok (.ifCond .ne 14, 3) := by decide +kernel
theorem dX12_child_20 : decode cX12_child 20 = .ok (.iload_n 2, 1) := by decide +kernel
theorem dX12_child_21 : decode cX12_child 21 = .ok (.bipush 11, 2) := by decide +kernel
theorem dX12_child_23 : decode cX12_child 23 = .ok (.bipush 13, 2) := by decide +kernel
theorem dX12_child_25 : decode cX12_child 25 = .ok (.invokestatic 77, 3) := by decide +kernel
theorem dX12_child_28 : decode cX12_child 28 = .ok (.ifCond .eq 12, 3) := by decide +kernel
theorem dX12_child_31 : decode cX12_child 31 = .ok (.aload_n 0, 1) := by decide +kernel
theorem dX12_child_32 : decode cX12_child 32 = .ok (.iload_n 1, 1) := by decide +kernel
theorem dX12_child_33 : decode cX12_child 33 = .ok (.iload_n 2, 1) := by decide +kernel
theorem dX12_child_34 : decode cX12_child 34 = .ok (.invokevirtual 159, 3) := by decide +kernel
theorem dX12_child_37 : decode cX12_child 37 = .ok (.goto 5, 3) := by decide +kernel
theorem dX12_child_40 : decode cX12_child 40 = .ok (.bipush (-102), 2) := by decide +kernel
theorem dX12_child_42 : decode cX12_child 42 = .ok (.ireturn, 1) := by decide +kernel
set_option maxRecDepth 20000 in
theorem ggX12_as_X12_isChild : GoodIn wsX12_as wsX12_isChild := goodIn_r _ [6, 7, 8, 9, 5, 10, 11, 12, 13, 14, 15, 16, 17, 18, 19, 20, 21, 22, 23, 24, 25, 26, 27, 28, 29, 30, 31, 32, 33, 34, 35, 36, 37, 38, 39, 40, 41, 42, 43, 44, 45, 46, 47, 48] (by decide +kernel) (by decide +kernel)
set_option maxRecDepth 20000 in
theorem gX12_as_X12_isChild : GoodIn wsX12_as (wsV RX12 156 RX12 yX12_isChild wsX12_isChild) := goodIn_app (goodIn_of _ (by decide +kernel)) ggX12_as_X12_isChild
set_option maxRecDepth 20000 in
theorem ggX12_as_X12_within : GoodIn wsX12_as wsX12_within := goodIn_r _ [10] (by decide +kernel) (by decide +kernel)
set_option maxRecDepth 20000 in
theorem gX12_as_X12_within : GoodIn wsX12_as (va_wsS RX12 77 yX12_within wsX12_within) := goodIn_app (goodIn_of _ (by decide +kernel)) ggX12_as_X12_within
theorem dX12_as_0 : decode cX12_as 0 = .ok (.aload_n 0, 1) := by decide +kernel
theorem dX12_as_1 : decode cX12_as 1 = .ok (.iload_n 1, 1) := by decide +kernel
theorem dX12_as_2 : decode cX12_as 2 = .ok (.invokevirtual 156, 3) := by decide +kernel
theorem dX12_as_5 : decode cX12_as 5 = .ok (.ifCond .ne 6, 3) := by decide +kernel
theorem dX12_as_8 : decode cX12_as 8 = .ok (.bipush (-101), 2) := by decide +kernel
theorem dX12_as_10 : decode cX12_as 10 = .ok (.ireturn, 1) := by decide +kernel
theorem dX12_as_11 : decode cX12_as 11 = .ok (.iload_n 2, 1) := by decide +kernel
theorem dX12_as_12 : decode cX12_as 12 = .ok (.iconst 0, 1) := by decide +kernel
theorem dX12_as_13 : decode cX12_as 13 = .ok (.iconst 4, 1) := by decide +kernel
theorem dX12_as_14 : decode cX12_as 14 = .ok (.invokestatic 77, 3) := by decide +kernel
theorem dX12_as_17 : decode cX12_as 17 = .ok (.ifCond .ne 6, 3) := by decide +kernel
theorem dX12_as_20 : decode cX12_as 20 = .ok (.bipush (-102), 2) := by decide +kernel
theorem dX12_as_22 : decode cX12_as 22 = .ok (.ireturn, 1) := by decide +kernel
theorem dX12_as_23 : decode cX12_as 23 = .ok (.aload_n 0, 1) := by decide +kernel
theorem dX12_as_24 : decode cX12_as 24 = .ok (.getfield 28, 3) := by decide +kernel
theorem dX12_as_27 : decode cX12_as 27 = .ok (.iload_n 1, 1) := by decide +kernel
theorem dX12_as_28 : decode cX12_as 28 = .ok (.iaload, 1) := by decide +kernel
theorem dX12_as_29 : decode cX12_as 29 = .ok (.istore_n 3, 1) := by decide +kernel
theorem dX12_as_30 : decode cX12_as 30 = .ok (.iload_n 2, 1) := by decide +kernel
theorem dX12_as_31 : decode cX12_as 31 = .ok (.ifCond .eq 18, 3) := by decide +kernel
theorem dX12_as_34 : decode cX12_as 34 = .ok (.iload_n 3, 1) := by decide +kernel
theorem dX12_as_35 : decode cX12_as 35 = .ok (.iload_n 2, 1) := by decide +kernel
theorem dX12_as_36 : decode cX12_as 36 = .ok (.if_icmp .eq 13, 3) := by decide +kernel
theorem dX12_as_39 : decode cX12_as 39 = .ok (.iload_n 2, 1) := by decide +kernel
theorem dX12_as_40 : decode cX12_as 40 = .ok (.iconst 3, 1) := by decide +kernel
theorem dX12_as_41 : decode cX12_as 41 = .ok (.if_icmp .ne 12, 3) := by decide +kernel
theorem dX12_as_44 : decode cX12_as 44 = .ok (.iload_n 3, 1) := by decide +kernel
theorem dX12_as_45 : decode cX12_as 45 = .ok (.iconst 4, 1) := by decide +kernel
theorem dX12_as_46 : decode cX12_as 46 = .ok (.if_icmp .ne 7, 3) := by decide +kernel
theorem dX12_as_49 : decode cX12_as 49 = .ok (.iload_n 1, 1) := by decide +kernel
theorem dX12_as_50 : decode cX12_as 50 = .ok (.goto 4, 3) := by decide +kernel
theorem dX12_as_53 : decode cX12_as 53 = .ok (.iconst (-1), 1) := by decide +kernel
theorem dX12_as_54 : decode cX12_as 54 = .ok (.ireturn, 1) := by decide +kernel
theorem dX12_rise_0 : decode cX12_rise 0 = .ok (.aload_n 0, 1) := by decide +kernel
theorem dX12_rise_1 : decode cX12_rise 1 = .ok (.getfield 13, 3) := by decide +kernel
theorem dX12_rise_4 : decode cX12_rise 4 = .ok (.iload_n 1, 1) := by decide +kernel
theorem dX12_rise_5 : decode cX12_rise 5 = .ok (.iaload, 1) := by decide +kernel
theorem dX12_rise_6 : decode cX12_rise 6 = .ok (.aload_n 0, 1) := by decide +kernel
theorem dX12_rise_7 : decode cX12_rise 7 = .ok (.getfield 7, 3) := by decide +kernel
theorem dX12_rise_10 : decode cX12_rise 10 = .ok (.iload_n 1, 1) := by decide +kernel
theorem dX12_rise_11 : decode cX12_rise 11 = .ok (.iaload, 1) := by decide +kernel
theorem dX12_rise_12 : decode cX12_rise 12 = .ok (.iconst 1, 1) := by decide +kernel
theorem dX12_rise_13 : decode cX12_rise 13 = .ok (.iadd, 1) := by decide +kernel
theorem dX12_rise_14 : decode cX12_rise 14 = .ok (.if_icmp .ge 12, 3) := by decide +kernel
theorem dX12_rise_17 : decode cX12_rise 17 = .ok (.aload_n 0, 1) := by decide +kernel
theorem dX12_rise_18 : decode cX12_rise 18 = .ok (.getfield 13, 3) := by decide +kernel
theorem dX12_rise_21 : decode cX12_rise 21 = .ok (.iload_n 1, 1) := by decide +kernel
theorem dX12_rise_22 : decode cX12_rise 22 = .ok (.iaload, 1) := by decide +kernel
theorem dX12_rise_23 : decode cX12_rise 23 = .ok (.goto 11, 3) := by decide +kernel
theorem dX12_rise_26 : decode cX12_rise 26 = .ok (.aload_n 0, 1) := by decide +kernel
theorem dX12_rise_27 : decode cX12_rise 27 = .ok (.getfield 7, 3) := by decide +kernel
theorem dX12_rise_30 : decode cX12_rise 30 = .ok (.iload_n 1, 1) := by decide +kernel
theorem dX12_rise_31 : decode cX12_rise 31 = .ok (.iaload, 1) := by decide +kernel
theorem dX12_rise_32 : decode cX12_rise 32 = .ok (.iconst 1, 1) := by decide +kernel
theorem dX12_rise_33 : decode cX12_rise 33 = .ok (.iadd, 1) := by decide +kernel
theorem dX12_rise_34 : decode cX12_rise 34 = .ok (.istore_n 2, 1) := by decide +kernel
theorem dX12_rise_35 : decode cX12_rise 35 = .ok (.aload_n 0, 1) := by decide +kernel
theorem dX12_rise_36 : decode cX12_rise 36 = .ok (.getfield 13, 3) := by decide +kernel
theorem dX12_rise_39 : decode cX12_rise 39 = .ok (.iload_n 1, 1) := by decide +kernel
theorem dX12_rise_40 : decode cX12_rise 40 = .ok (.dup2, 1) := by decide +kernel
theorem dX12_rise_41 : decode cX12_rise 41 = .ok (.iaload, 1) := by decide +kernel
theorem dX12_rise_42 : decode cX12_rise 42 = .ok (.iload_n 2, 1) := by decide +kernel
theorem dX12_rise_43 : decode cX12_rise 43 = .ok (.isub, 1) := by decide +kernel
theorem dX12_rise_44 : decode cX12_rise 44 = .ok (.iastore, 1) := by decide +kernel
theorem dX12_rise_45 : decode cX12_rise 45 = .ok (.aload_n 0, 1) := by decide +kernel
theorem dX12_rise_46 : decode cX12_rise 46 = .ok (.getfield 16, 3) := by decide +kernel
theorem dX12_rise_49 : decode cX12_rise 49 = .ok (.iload_n 1, 1) := by decide +kernel
theorem dX12_rise_50 : decode cX12_rise 50 = .ok (.dup2, 1) := by decide +kernel
theorem dX12_rise_51 : decode cX12_rise 51 = .ok (.iaload, 1) := by decide +kernel
theorem dX12_rise_52 : decode cX12_rise 52 = .ok (.iload_n 2, 1) := by decide +kernel
theorem dX12_rise_53 : decode cX12_rise 53 = .ok (.iadd, 1) := by decide +kernel
theorem dX12_rise_54 : decode cX12_rise 54 = .ok (.iastore, 1) := by decide +kernel
theorem dX12_rise_55 : decode cX12_rise 55 = .ok (.return_, 1) := by decide +kernel
set_option maxRecDepth 20000 in
theorem ggX12_goBy_X12_rise : GoodIn wsX12_goBy wsX12_rise := goodIn_r _ [8, 9, 10, 2, 11, 12, 13, 14, 15, 16, 17, 18, 19, 20, 21, 22, 23, 24, 25, 26, 27, 28, 29, 30, 31, 32, 33, 34, 35, 36, 37, 38, 39, 40, 41, 42, 43, 44, 45, 46, 47, 48] (by decide +kernel) (by decide +kernel)
set_option maxRecDepth 20000 in
theorem gX12_goBy_X12_rise : GoodIn wsX12_goBy (wsV RX12 162 RX12 yX12_rise wsX12_rise) := goodIn_app (goodIn_of _ (by decide +kernel)) ggX12_goBy_X12_rise
theorem dX12_goBy_0 : decode cX12_goBy 0 = .ok (.aload_n 0, 1) := by decide +kernel
theorem dX12_goBy_1 : decode cX12_goBy 1 = .ok (.iload_n 1, 1) := by decide +kernel
theorem dX12_goBy_2 : decode cX12_goBy 2 = .ok (.invokevirtual 162, 3) := by decide +kernel
theorem dX12_goBy_5 : decode cX12_goBy 5 = .ok (.aload_n 0, 1) := by decide +kernel
theorem dX12_goBy_6 : decode cX12_goBy 6 = .ok (.getfield 25, 3) := by decide +kernel
theorem dX12_goBy_9 : decode cX12_goBy 9 = .ok (.iload_n 1, 1) := by decide +kernel
theorem dX12_goBy_10 : decode cX12_goBy 10 = .ok (.dup2, 1) := by decide +kernel
theorem dX12_goBy_11 : decode cX12_goBy 11 = .ok (.iaload, 1) := by decide +kernel
theorem dX12_goBy_12 : decode cX12_goBy 12 = .ok (.iconst 1, 1) := by decide +kernel
theorem dX12_goBy_13 : decode cX12_goBy 13 = .ok (.iadd, 1) := by decide +kernel
theorem dX12_goBy_14 : decode cX12_goBy 14 = .ok (.iastore, 1) := by decide +kernel
theorem dX12_goBy_15 : decode cX12_goBy 15 = .ok (.aload_n 0, 1) := by decide +kernel
theorem dX12_goBy_16 : decode cX12_goBy 16 = .ok (.getfield 25, 3) := by decide +kernel
theorem dX12_goBy_19 : decode cX12_goBy 19 = .ok (.iload_n 1, 1) := by decide +kernel
theorem dX12_goBy_20 : decode cX12_goBy 20 = .ok (.iaload, 1) := by decide +kernel
theorem dX12_goBy_21 : decode cX12_goBy 21 = .ok (.iconst 3, 1) := by decide +kernel
theorem dX12_goBy_22 : decode cX12_goBy 22 = .ok (.irem, 1) := by decide +kernel
theorem dX12_goBy_23 : decode cX12_goBy 23 = .ok (.ifCond .ne 32, 3) := by decide +kernel
theorem dX12_goBy_26 : decode cX12_goBy 26 = .ok (.aload_n 0, 1) := by decide +kernel
theorem dX12_goBy_27 : decode cX12_goBy 27 = .ok (.getfield 16, 3) := by decide +kernel
theorem dX12_goBy_30 : decode cX12_goBy 30 = .ok (.iload_n 1, 1) := by decide +kernel
theorem dX12_goBy_31 : decode cX12_goBy 31 = .ok (.iaload, 1) := by decide +kernel
theorem dX12_goBy_32 : decode cX12_goBy 32 = .ok (.ifCond .le 23, 3) := by decide +kernel
theorem dX12_goBy_35 : decode cX12_goBy 35 = .ok (.aload_n 0, 1) := by decide +kernel
theorem dX12_goBy_36 : decode cX12_goBy 36 = .ok (.getfield 16, 3) := by decide +kernel
theorem dX12_goBy_39 : decode cX12_goBy 39 = .ok (.iload_n 1, 1) := by decide +kernel
theorem dX12_goBy_40 : decode cX12_goBy 40 = .ok (.dup2, 1) := by decide +kernel
theorem dX12_goBy_41 : decode cX12_goBy 41 = .ok (.iaload, 1) := by decide +kernel
theorem dX12_goBy_42 : decode cX12_goBy 42 = .ok (.iconst 1, 1) := by decide +kernel
theorem dX12_goBy_43 : decode cX12_goBy 43 = .ok (.isub, 1) := by decide +kernel
theorem dX12_goBy_44 : decode cX12_goBy 44 = .ok (.iastore, 1) := by decide +kernel
theorem dX12_goBy_45 : decode cX12_goBy 45 = .ok (.aload_n 0, 1) := by decide +kernel
theorem dX12_goBy_46 : decode cX12_goBy 46 = .ok (.getfield 19, 3) := by decide +kernel
theorem dX12_goBy_49 : decode cX12_goBy 49 = .ok (.iload_n 1, 1) := by decide +kernel
theorem dX12_goBy_50 : decode cX12_goBy 50 = .ok (.dup2, 1) := by decide +kernel
theorem dX12_goBy_51 : decode cX12_goBy 51 = .ok (.iaload, 1) := by decide +kernel
theorem dX12_goBy_52 : decode cX12_goBy 52 = .ok (.iconst 1, 1) := by decide +kernel
theorem dX12_goBy_53 : decode cX12_goBy 53 = .ok (.iadd, 1) := by decide +kernel
theorem dX12_goBy_54 : decode cX12_goBy 54 = .ok (.iastore, 1) := by decide +kernel
theorem dX12_goBy_55 : decode cX12_goBy 55 = .ok (.return_, 1) := by decide +kernel
set_option maxRecDepth 20000 in
theorem ggX12_goByAll_X12_goBy : GoodIn wsX12_goByAll wsX12_goBy := goodIn_r _ [6, 7, 8, 9, 10, 11, 12, 5, 13, 14, 15, 16, 17, 18, 19, 20, 21, 22, 23, 24, 25, 26, 27, 28, 29, 30, 31, 32, 33, 34, 35, 36, 37, 38, 39, 40, 41, 42, 43, 44, 45, 46, 47, 48, 49, 50, 51, 52, 53] (by decide +kernel) (by decide +kernel)
set_option maxRecDepth 20000 in
theorem gX12_goByAll_X12_goBy : GoodIn wsX12_goByAll (wsV RX12 166 RX12 yX12_goBy wsX12_goBy) := goodIn_app (goodIn_of _ (by decide +kernel)) ggX12_goByAll_X12_goBy
theorem dX12_goByAll_0 : decode cX12_goByAll 0 = .ok (.iconst 0, 1) := by decide +kernel
theorem dX12_goByAll_1 : decode cX12_goByAll 1 = .ok (.istore_n 1, 1) := by decide +kernel
theorem dX12_goByAll_2 : decode cX12_goByAll 2 = .ok (.iload_n 1, 1) := by decide +kernel
theorem dX12_goByAll_3 : decode cX12_goByAll 3 = .ok (.aload_n 0, 1) := by decide +kernel
theorem dX12_goByAll_4 : decode cX12_goByAll 4 = .ok (.getfield 119, 3) := by decide +kernel
theorem dX12_goByAll_7 : decode cX12_goByAll 7 = .ok (.if_icmp .ge 14, 3) := by decide +kernel
theorem dX12_goByAll_10 : decode cX12_goByAll 10 = .ok (.aload_n 0, 1) := by decide +kernel
theorem dX12_goByAll_11 : decode cX12_goByAll 11 = .ok (.iload_n 1, 1) := by decide +kernel
theorem dX12_goByAll_12 : decode cX12_goByAll 12 = .ok (.invokevirtual 166, 3) := by decide +kernel
theorem dX12_goByAll_15 : decode cX12_goByAll 15 = .ok (.iinc 1 1, 3) := by decide +kernel
theorem dX12_goByAll_18 : decode cX12_goByAll 18 = .ok (.goto (-16), 3) := by decide +kernel
theorem dX12_goByAll_21 : decode cX12_goByAll 21 = .ok (.return_, 1) := by decide +kernel
set_option maxRecDepth 20000 in
theorem ggX12_hour_X12_goByAll : GoodIn wsX12_hour wsX12_goByAll := goodIn_r _ [7, 1, 8, 9, 10, 6, 11, 12, 13, 14, 15, 16, 17, 18, 19, 20, 21, 22, 23, 24, 25, 26, 27, 28, 29, 30, 31, 32, 33, 34, 35, 36, 37, 38, 39, 40, 41, 42, 43, 44, 45, 46, 47, 48, 49, 50, 51, 52, 53, 54, 55, 56, 57, 58] (by decide +kernel) (by decide +kernel)
set_option maxRecDepth 20000 in
theorem gX12_hour_X12_goByAll : GoodIn wsX12_hour (wsV RX12 169 RX12 yX12_goByAll wsX12_goByAll) := goodIn_app (goodIn_of _ (by decide +kernel)) ggX12_hour_X12_goByAll
theorem dX12_hour_0 : decode cX12_hour 0 = .ok (.aload_n 0, 1) := by decide +kernel
theorem dX12_hour_1 : decode cX12_hour 1 = .ok (.getfield 119, 3) := by decide +kernel
theorem dX12_hour_4 : decode cX12_hour 4 = .ok (.ifCond .ne 6, 3) := by decide +kernel
theorem dX12_hour_7 : decode cX12_hour 7 = .ok (.bipush (-103), 2) := by decide +kernel
theorem dX12_hour_9 : decode cX12_hour 9 = .ok (.ireturn, 1) := by decide +kernel
theorem dX12_hour_10 : decode cX12_hour 10 = .ok (.aload_n 0, 1) := by decide +kernel
theorem dX12_hour_11 : decode cX12_hour 11 = .ok (.getfield 125, 3) := by decide +kernel
theorem dX12_hour_14 : decode cX12_hour 14 = .ok (.sipush 999, 3) := by decide +kernel
theorem dX12_hour_17 : decode cX12_hour 17 = .ok (.if_icmp .ne 6, 3) := by decide +kernel
theorem dX12_hour_20 : decode cX12_hour 20 = .ok (.bipush (-104), 2) := by decide +kernel
theorem dX12_hour_22 : decode cX12_hour 22 = .ok (.ireturn, 1) := by decide +kernel
theorem dX12_hour_23 : decode cX12_hour 23 = .ok (.aload_n 0, 1) := by decide +kernel
theorem dX12_hour_24 : decode cX12_hour 24 = .ok (.invokevirtual 169, 3) := by decide +kernel
