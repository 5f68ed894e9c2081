theorem dX8_mostIn_32 : decode cX8_mostIn 32 = .ok (.istore 4, 2) := by decide +kernel
theorem dX8_mostIn_34 : decode cX8_mostIn 34 = .ok (.iload 4, 2) := by decide +kernel
theorem dX8_mostIn_36 : decode cX8_mostIn 36 = .ok (.sipush 180, 3) := by decide +kernel
theorem dX8_mostIn_39 : decode cX8_mostIn 39 = .ok (.if_icmp .ge 17, 3) := by decide +kernel
theorem dX8_mostIn_42 : decode cX8_mostIn 42 = .ok (.aload_n 0, 1) := by decide +kernel
theorem dX8_mostIn_43 : decode cX8_mostIn 43 = .ok (.getfield 37, 3) := by decide +kernel
theorem dX8_mostIn_46 : decode cX8_mostIn 46 = .ok (.iload 4, 2) := by decide +kernel
theorem dX8_mostIn_48 : decode cX8_mostIn 48 = .ok (.iconst (-1), 1) := by decide +kernel
theorem dX8_mostIn_49 : decode cX8_mostIn 49 = .ok (.iastore, 1) := by decide +kernel
theorem dX8_mostIn_50 : decode cX8_mostIn 50 = .ok (.iinc 4 1, 3) := by decide +kernel
theorem dX8_mostIn_53 : decode cX8_mostIn 53 = .ok (.goto (-19), 3) := by decide +kernel
theorem dX8_mostIn_56 : decode cX8_mostIn 56 = .ok (.aload_n 0, 1) := by decide +kernel
theorem dX8_mostIn_57 : decode cX8_mostIn 57 = .ok (.getfield 37, 3) := by decide +kernel
theorem dX8_mostIn_60 : decode cX8_mostIn 60 = .ok (.iload_n 1, 1) := by decide +kernel
theorem dX8_mostIn_61 : decode cX8_mostIn 61 = .ok (.iconst 4, 1) := by decide +kernel
theorem dX8_mostIn_62 : decode cX8_mostIn 62 = .ok (.invokestatic 152, 3) := by decide +kernel
theorem dX8_mostIn_65 : decode cX8_mostIn 65 = .ok (.iconst 0, 1) := by decide +kernel
theorem dX8_mostIn_66 : decode cX8_mostIn 66 = .ok (.iastore, 1) := by decide +kernel
theorem dX8_mostIn_67 : decode cX8_mostIn 67 = .ok (.aload_n 0, 1) := by decide +kernel
theorem dX8_mostIn_68 : decode cX8_mostIn 68 = .ok (.iload_n 1, 1) := by decide +kernel
theorem dX8_mostIn_69 : decode cX8_mostIn 69 = .ok (.invokevirtual 84, 3) := by decide +kernel
theorem dX8_mostIn_72 : decode cX8_mostIn 72 = .ok (.istore 4, 2) := by decide +kernel
theorem dX8_mostIn_74 : decode cX8_mostIn 74 = .ok (.iconst 0, 1) := by decide +kernel
theorem dX8_mostIn_75 : decode cX8_mostIn 75 = .ok (.istore 5, 2) := by decide +kernel
theorem dX8_mostIn_77 : decode cX8_mostIn 77 = .ok (.iload 5, 2) := by decide +kernel
theorem dX8_mostIn_79 : decode cX8_mostIn 79 = .ok (.iload_n 2, 1) := by decide +kernel
theorem dX8_mostIn_80 : decode cX8_mostIn 80 = .ok (.if_icmp .ge 276, 3) := by decide +kernel
theorem dX8_mostIn_83 : decode cX8_mostIn 83 = .ok (.iconst 0, 1) := by decide +kernel
theorem dX8_mostIn_84 : decode cX8_mostIn 84 = .ok (.istore 6, 2) := by decide +kernel
theorem dX8_mostIn_86 : decode cX8_mostIn 86 = .ok (.iload 6, 2) := by decide +kernel
theorem dX8_mostIn_88 : decode cX8_mostIn 88 = .ok (.sipush 180, 3) := by decide +kernel
theorem dX8_mostIn_91 : decode cX8_mostIn 91 = .ok (.if_icmp .ge 17, 3) := by decide +kernel
theorem dX8_mostIn_94 : decode cX8_mostIn 94 = .ok (.aload_n 0, 1) := by decide +kernel
theorem dX8_mostIn_95 : decode cX8_mostIn 95 = .ok (.getfield 40, 3) := by decide +kernel
theorem dX8_mostIn_98 : decode cX8_mostIn 98 = .ok (.iload 6, 2) := by decide +kernel
theorem dX8_mostIn_100 : decode cX8_mostIn 100 = .ok (.iconst (-1), 1) := by decide +kernel
theorem dX8_mostIn_101 : decode cX8_mostIn 101 = .ok (.iastore, 1) := by decide +kernel
theorem dX8_mostIn_102 : decode cX8_mostIn 102 = .ok (.iinc 6 1, 3) := by decide +kernel
theorem dX8_mostIn_105 : decode cX8_mostIn 105 = .ok (.goto (-19), 3) := by decide +kernel
theorem dX8_mostIn_108 : decode cX8_mostIn 108 = .ok (.iconst 0, 1) := by decide +kernel
theorem dX8_mostIn_109 : decode cX8_mostIn 109 = .ok (.istore 6, 2) := by decide +kernel
theorem dX8_mostIn_111 : decode cX8_mostIn 111 = .ok (.iload 6, 2) := by decide +kernel
theorem dX8_mostIn_113 : decode cX8_mostIn 113 = .ok (.bipush 36, 2) := by decide +kernel
theorem dX8_mostIn_115 : decode cX8_mostIn 115 = .ok (.if_icmp .ge 204, 3) := by decide +kernel
theorem dX8_mostIn_118 : decode cX8_mostIn 118 = .ok (.iconst 0, 1) := by decide +kernel
theorem dX8_mostIn_119 : decode cX8_mostIn 119 = .ok (.istore 7, 2) := by decide +kernel
theorem dX8_mostIn_121 : decode cX8_mostIn 121 = .ok (.iload 7, 2) := by decide +kernel
theorem dX8_mostIn_123 : decode cX8_mostIn 123 = .ok (.iconst 4, 1) := by decide +kernel
theorem dX8_mostIn_124 : decode cX8_mostIn 124 = .ok (.if_icmp .gt 189, 3) := by decide +kernel
theorem dX8_mostIn_127 : decode cX8_mostIn 127 = .ok (.aload_n 0, 1) := by decide +kernel
theorem dX8_mostIn_128 : decode cX8_mostIn 128 = .ok (.getfield 37, 3) := by decide +kernel
theorem dX8_mostIn_131 : decode cX8_mostIn 131 = .ok (.iload 6, 2) := by decide +kernel
theorem dX8_mostIn_133 : decode cX8_mostIn 133 = .ok (.iload 7, 2) := by decide +kernel
theorem dX8_mostIn_135 : decode cX8_mostIn 135 = .ok (.invokestatic 152, 3) := by decide +kernel
theorem dX8_mostIn_138 : decode cX8_mostIn 138 = .ok (.iaload, 1) := by decide +kernel
theorem dX8_mostIn_139 : decode cX8_mostIn 139 = .ok (.istore 8, 2) := by decide +kernel
theorem dX8_mostIn_141 : decode cX8_mostIn 141 = .ok (.iconst 0, 1) := by decide +kernel
theorem dX8_mostIn_142 : decode cX8_mostIn 142 = .ok (.istore 9, 2) := by decide +kernel
theorem dX8_mostIn_144 : decode cX8_mostIn 144 = .ok (.iload 9, 2) := by decide +kernel
theorem dX8_mostIn_146 : decode cX8_mostIn 146 = .ok (.iconst 4, 1) := by decide +kernel
theorem dX8_mostIn_147 : decode cX8_mostIn 147 = .ok (.if_icmp .ge 160, 3) := by decide +kernel
theorem dX8_mostIn_150 : decode cX8_mostIn 150 = .ok (.iload 8, 2) := by decide +kernel
theorem dX8_mostIn_152 : decode cX8_mostIn 152 = .ok (.ifCond .lt 155, 3) := by decide +kernel
theorem dX8_mostIn_155 : decode cX8_mostIn 155 = .ok (.aload_n 0, 1) := by decide +kernel
theorem dX8_mostIn_156 : decode cX8_mostIn 156 = .ok (.iload 6, 2) := by decide +kernel
theorem dX8_mostIn_158 : decode cX8_mostIn 158 = .ok (.iload 9, 2) := by decide +kernel
theorem dX8_mostIn_160 : decode cX8_mostIn 160 = .ok (.invokevirtual 128, 3) := by decide +kernel
theorem dX8_mostIn_163 : decode cX8_mostIn 163 = .ok (.istore 10, 2) := by decide +kernel
theorem dX8_mostIn_165 : decode cX8_mostIn 165 = .ok (.aload_n 0, 1) := by decide +kernel
theorem dX8_mostIn_166 : decode cX8_mostIn 166 = .ok (.iload 6, 2) := by decide +kernel
theorem dX8_mostIn_168 : decode cX8_mostIn 168 = .ok (.iload 7, 2) := by decide +kernel
theorem dX8_mostIn_170 : decode cX8_mostIn 170 = .ok (.iload 9, 2) := by decide +kernel
theorem dX8_mostIn_172 : decode cX8_mostIn 172 = .ok (.invokevirtual 148, 3) := by decide +kernel
theorem dX8_mostIn_175 : decode cX8_mostIn 175 = .ok (.istore 11, 2) := by decide +kernel
theorem dX8_mostIn_177 : decode cX8_mostIn 177 = .ok (.iload 10, 2) := by decide +kernel
theorem dX8_mostIn_179 : decode cX8_mostIn 179 = .ok (.ifCond .lt 122, 3) := by decide +kernel
theorem dX8_mostIn_182 : decode cX8_mostIn 182 = .ok (.iload_n 3, 1) := by decide +kernel
theorem dX8_mostIn_183 : decode cX8_mostIn 183 = .ok (.ifCond .eq 20, 3) := by decide +kernel
theorem dX8_mostIn_186 : decode cX8_mostIn 186 = .ok (.iload 11, 2) := by decide +kernel
theorem dX8_mostIn_188 : decode cX8_mostIn 188 = .ok (.ifCond .le 15, 3) := by decide +kernel
theorem dX8_mostIn_191 : decode cX8_mostIn 191 = .ok (.aload_n 0, 1) := by decide +kernel
theorem dX8_mostIn_192 : decode cX8_mostIn 192 = .ok (.iload 6, 2) := by decide +kernel
theorem dX8_mostIn_194 : decode cX8_mostIn 194 = .ok (.invokevirtual 172, 3) := by decide +kernel
theorem dX8_mostIn_197 : decode cX8_mostIn 197 = .ok (.ifCond .eq 6, 3) := by decide +kernel
theorem dX8_mostIn_200 : decode cX8_mostIn 200 = .ok (.goto 101, 3) := by decide +kernel
theorem dX8_mostIn_203 : decode cX8_mostIn 203 = .ok (.iload 8, 2) := by decide +kernel
theorem dX8_mostIn_205 : decode cX8_mostIn 205 = .ok (.iload 11, 2) := by decide +kernel
theorem dX8_mostIn_207 : decode cX8_mostIn 207 = .ok (.iadd, 1) := by decide +kernel
theorem dX8_mostIn_208 : decode cX8_mostIn 208 = .ok (.aload_n 0, 1) := by decide +kernel
theorem dX8_mostIn_209 : decode cX8_mostIn 209 = .ok (.getfield 40, 3) := by decide +kernel
theorem dX8_mostIn_212 : decode cX8_mostIn 212 = .ok (.iload 10, 2) := by decide +kernel
theorem dX8_mostIn_214 : decode cX8_mostIn 214 = .ok (.iload 9, 2) := by decide +kernel
theorem dX8_mostIn_216 : decode cX8_mostIn 216 = .ok (.invokestatic 152, 3) := by decide +kernel
theorem dX8_mostIn_219 : decode cX8_mostIn 219 = .ok (.iaload, 1) := by decide +kernel
theorem dX8_mostIn_220 : decode cX8_mostIn 220 = .ok (.if_icmp .le 20, 3) := by decide +kernel
theorem dX8_mostIn_223 : decode cX8_mostIn 223 = .ok (.aload_n 0, 1) := by decide +kernel
theorem dX8_mostIn_224 : decode cX8_mostIn 224 = .ok (.getfield 40, 3) := by decide +kernel
theorem dX8_mostIn_227 : decode cX8_mostIn 227 = .ok (.iload 10, 2) := by decide +kernel
theorem dX8_mostIn_229 : decode cX8_mostIn 229 = .ok (.iload 9, 2) := by decide +kernel
theorem dX8_mostIn_231 : decode cX8_mostIn 231 = .ok (.invokestatic 152, 3) := by decide +kernel
theorem dX8_mostIn_234 : decode cX8_mostIn 234 = .ok (.iload 8, 2) := by decide +kernel
theorem dX8_mostIn_236 : decode cX8_mostIn 236 = .ok (.iload 11, 2) := by decide +kernel
theorem dX8_mostIn_238 : decode cX8_mostIn 238 = .ok (.iadd, 1) := by decide +kernel
theorem dX8_mostIn_239 : decode cX8_mostIn 239 = .ok (.iastore, 1) := by decide +kernel
theorem dX8_mostIn_240 : decode cX8_mostIn 240 = .ok (.iload_n 3, 1) := by decide +kernel
theorem dX8_mostIn_241 : decode cX8_mostIn 241 = .ok (.ifCond .eq 24, 3) := by decide +kernel
theorem dX8_mostIn_244 : decode cX8_mostIn 244 = .ok (.aload_n 0, 1) := by decide +kernel
theorem dX8_mostIn_245 : decode cX8_mostIn 245 = .ok (.iload 10, 2) := by decide +kernel
theorem dX8_mostIn_247 : decode cX8_mostIn 247 = .ok (.invokevirtual 84, 3) := by decide +kernel
theorem dX8_mostIn_250 : decode cX8_mostIn 250 = .ok (.ifCond .le 15, 3) := by decide +kernel
theorem dX8_mostIn_253 : decode cX8_mostIn 253 = .ok (.aload_n 0, 1) := by decide +kernel
theorem dX8_mostIn_254 : decode cX8_mostIn 254 = .ok (.iload 10, 2) := by decide +kernel
theorem dX8_mostIn_256 : decode cX8_mostIn 256 = .ok (.invokevirtual 172, 3) := by decide +kernel
theorem dX8_mostIn_259 : decode cX8_mostIn 259 = .ok (.ifCond .eq 6, 3) := by decide +kernel
theorem dX8_mostIn_262 : decode cX8_mostIn 262 = .ok (.goto 39, 3) := by decide +kernel
theorem dX8_mostIn_265 : decode cX8_mostIn 265 = .ok (.iload 8, 2) := by decide +kernel
theorem dX8_mostIn_267 : decode cX8_mostIn 267 = .ok (.iload 11, 2) := by decide +kernel
theorem dX8_mostIn_269 : decode cX8_mostIn 269 = .ok (.iadd, 1) := by decide +kernel
theorem dX8_mostIn_270 : decode cX8_mostIn 270 = .ok (.aload_n 0, 1) := by decide +kernel
theorem dX8_mostIn_271 : decode cX8_mostIn 271 = .ok (.iload 10, 2) := by decide +kernel
theorem dX8_mostIn_273 : decode cX8_mostIn 273 = .ok (.invokevirtual 84, 3) := by decide +kernel
theorem dX8_mostIn_276 : decode cX8_mostIn 276 = .ok (.iadd, 1) := by decide +kernel
theorem dX8_mostIn_277 : decode cX8_mostIn 277 = .ok (.iload 4, 2) := by decide +kernel
theorem dX8_mostIn_279 : decode cX8_mostIn 279 = .ok (.if_icmp .le 18, 3) := by decide +kernel
theorem dX8_mostIn_282 : decode cX8_mostIn 282 = .ok (.iload 8, 2) := by decide +kernel
theorem dX8_mostIn_284 : decode cX8_mostIn 284 = .ok (.iload 11, 2) := by decide +kernel
theorem dX8_mostIn_286 : decode cX8_mostIn 286 = .ok (.iadd, 1) := by decide +kernel
theorem dX8_mostIn_287 : decode cX8_mostIn 287 = .ok (.aload_n 0, 1) := by decide +kernel
theorem dX8_mostIn_288 : decode cX8_mostIn 288 = .ok (.iload 10, 2) := by decide +kernel
theorem dX8_mostIn_290 : decode cX8_mostIn 290 = .ok (.invokevirtual 84, 3) := by decide +kernel
theorem dX8_mostIn_293 : decode cX8_mostIn 293 = .ok (.iadd, 1) := by decide +kernel
theorem dX8_mostIn_294 : decode cX8_mostIn 294 = .ok (.goto 5, 3) := by decide +kernel
theorem dX8_mostIn_297 : decode cX8_mostIn 297 = .ok (.iload 4, 2) := by decide +kernel
theorem dX8_mostIn_299 : decode cX8_mostIn 299 = .ok (.istore 4, 2) := by decide +kernel
theorem dX8_mostIn_301 : decode cX8_mostIn 301 = .ok (.iinc 9 1, 3) := by decide +kernel
theorem dX8_mostIn_304 : decode cX8_mostIn 304 = .ok (.goto (-160), 3) := by decide +kernel
theorem dX8_mostIn_307 : decode cX8_mostIn 307 = .ok (.iinc 7 1, 3) := by decide +kernel
theorem dX8_mostIn_310 : decode cX8_mostIn 310 = .ok (.goto (-189), 3) := by decide +kernel
theorem dX8_mostIn_313 : decode cX8_mostIn 313 = .ok (.iinc 6 1, 3) := by decide +kernel
theorem dX8_mostIn_316 : decode cX8_mostIn 316 = .ok (.goto (-205), 3) := by decide +kernel
theorem dX8_mostIn_319 : decode cX8_mostIn 319 = .ok (.iconst 0, 1) := by decide +kernel
theorem dX8_mostIn_320 : decode cX8_mostIn 320 = .ok (.istore 6, 2) := by decide +kernel
theorem dX8_mostIn_322 : decode cX8_mostIn 322 = .ok (.iload 6, 2) := by decide +kernel
theorem dX8_mostIn_324 : decode cX8_mostIn 324 = .ok (.sipush 180, 3) := by decide +kernel
theorem dX8_mostIn_327 : decode cX8_mostIn 327 = .ok (.if_icmp .ge 23, 3) := by decide +kernel
theorem dX8_mostIn_330 : decode cX8_mostIn 330 = .ok (.aload_n 0, 1) := by decide +kernel
theorem dX8_mostIn_331 : decode cX8_mostIn 331 = .ok (.getfield 37, 3) := by decide +kernel
theorem dX8_mostIn_334 : decode cX8_mostIn 334 = .ok (.iload 6, 2) := by decide +kernel
theorem dX8_mostIn_336 : decode cX8_mostIn 336 = .ok (.aload_n 0, 1) := by decide +kernel
theorem dX8_mostIn_337 : decode cX8_mostIn 337 = .ok (.getfield 40, 3) := by decide +kernel
theorem dX8_mostIn_340 : decode cX8_mostIn 340 = .ok (.iload 6, 2) := by decide +kernel
theorem dX8_mostIn_342 : decode cX8_mostIn 342 = .ok (.iaload, 1) := by decide +kernel
theorem dX8_mostIn_343 : decode cX8_mostIn 343 = .ok (.iastore, 1) := by decide +kernel
theorem dX8_mostIn_344 : decode cX8_mostIn 344 = .ok (.iinc 6 1, 3) := by decide +kernel
theorem dX8_mostIn_347 : decode cX8_mostIn 347 = .ok (.goto (-25), 3) := by decide +kernel
theorem dX8_mostIn_350 : decode cX8_mostIn 350 = .ok (.iinc 5 1, 3) := by decide +kernel
theorem dX8_mostIn_353 : decode cX8_mostIn 353 = .ok (.goto (-276), 3) := by decide +kernel
theorem dX8_mostIn_356 : decode cX8_mostIn 356 = .ok (.iload 4, 2) := by decide +kernel
theorem dX8_mostIn_358 : decode cX8_mostIn 358 = .ok (.ireturn, 1) := by decide +kernel
set_option maxRecDepth 20000 in
theorem ggX8_wrongSteps_X8_isSquare : GoodIn wsX8_wrongSteps wsX8_isSquare := goodIn_r _ [4, 5, 6, 3, 7] (by decide +kernel) (by decide +kernel)
set_option maxRecDepth 20000 in
theorem gX8_wrongSteps_X8_isSquare : GoodIn wsX8_wrongSteps (va_wsS RX8 72 yX8_isSquare wsX8_isSquare) := goodIn_app (goodIn_of _ (by decide +kernel)) ggX8_wrongSteps_X8_isSquare
theorem dX8_wrongSteps_0 : decode cX8_wrongSteps 0 = .ok (.iload_n 1, 1) := by decide +kernel
theorem dX8_wrongSteps_1 : decode cX8_wrongSteps 1 = .ok (.invokestatic 72, 3) := by decide +kernel
theorem dX8_wrongSteps_4 : decode cX8_wrongSteps 4 = .ok (.ifCond .ne 7, 3) := by decide +kernel
theorem dX8_wrongSteps_7 : decode cX8_wrongSteps 7 = .ok (.iconst (-1), 1) := by decide +kernel
theorem dX8_wrongSteps_8 : decode cX8_wrongSteps 8 = .ok (.goto 25, 3) := by decide +kernel
theorem dX8_wrongSteps_11 : decode cX8_wrongSteps 11 = .ok (.iload_n 3, 1) := by decide +kernel
theorem dX8_wrongSteps_12 : decode cX8_wrongSteps 12 = .ok (.iload_n 2, 1) := by decide +kernel
theorem dX8_wrongSteps_13 : decode cX8_wrongSteps 13 = .ok (.if_icmp .ge 8, 3) := by decide +kernel
theorem dX8_wrongSteps_16 : decode cX8_wrongSteps 16 = .ok (.bipush (-4), 2) := by decide +kernel
theorem dX8_wrongSteps_18 : decode cX8_wrongSteps 18 = .ok (.goto 15, 3) := by decide +kernel
theorem dX8_wrongSteps_21 : decode cX8_wrongSteps 21 = .ok (.iload_n 3, 1) := by decide +kernel
theorem dX8_wrongSteps_22 : decode cX8_wrongSteps 22 = .ok (.iload 4, 2) := by decide +kernel
theorem dX8_wrongSteps_24 : decode cX8_wrongSteps 24 = .ok (.if_icmp .le 8, 3) := by decide +kernel
theorem dX8_wrongSteps_27 : decode cX8_wrongSteps 27 = .ok (.bipush (-6), 2) := by decide +kernel
theorem dX8_wrongSteps_29 : decode cX8_wrongSteps 29 = .ok (.goto 4, 3) := by decide +kernel
theorem dX8_wrongSteps_32 : decode cX8_wrongSteps 32 = .ok (.iconst 0, 1) := by decide +kernel
theorem dX8_wrongSteps_33 : decode cX8_wrongSteps 33 = .ok (.ireturn, 1) := by decide +kernel
set_option maxRecDepth 20000 in
theorem ggX8_words_X8_wrongSteps : GoodIn wsX8_words wsX8_wrongSteps := goodIn_r _ [5, 6, 7, 4, 8, 9, 10, 11] (by decide +kernel) (by decide +kernel)
set_option maxRecDepth 20000 in
theorem gX8_words_X8_wrongSteps : GoodIn wsX8_words (wsV RX8 175 RX8 yX8_wrongSteps wsX8_wrongSteps) := goodIn_app (goodIn_of _ (by decide +kernel)) ggX8_words_X8_wrongSteps
set_option maxRecDepth 20000 in
theorem ggX8_words_X8_no : GoodIn wsX8_words wsX8_no := goodIn_r _ [15, 16, 71, 72, 73, 74, 75, 76, 77, 78, 79, 80, 81, 82, 83, 84, 85, 86, 87, 88, 89] (by decide +kernel) (by decide +kernel)
set_option maxRecDepth 20000 in
theorem gX8_words_X8_no : GoodIn wsX8_words (wsV RX8 87 RX8 yX8_no wsX8_no) := goodIn_app (goodIn_of _ (by decide +kernel)) ggX8_words_X8_no
set_option maxRecDepth 20000 in
theorem ggX8_words_X8_mostIn : GoodIn wsX8_words wsX8_mostIn := goodIn_r _ [20, 21, 22, 23, 24, 25, 4, 26, 27, 28, 29, 30, 31, 32, 33, 34, 35, 36, 37, 38, 39, 40, 41, 42, 43, 44, 45, 46, 47, 48, 49, 50, 51, 52, 53, 54, 55, 56, 57, 58, 6, 7, 8, 9, 10, 11, 59, 60, 61, 62, 63, 64, 65, 66, 67, 68, 69, 70, 71, 72, 73, 74, 75, 76, 77, 78, 79, 80, 81, 82, 83, 84, 85, 86, 87, 88, 89] (by decide +kernel) (by decide +kernel)
set_option maxRecDepth 20000 in
theorem gX8_words_X8_mostIn : GoodIn wsX8_words (wsV RX8 179 RX8 yX8_mostIn wsX8_mostIn) := goodIn_app (goodIn_of _ (by decide +kernel)) ggX8_words_X8_mostIn
theorem dX8_words_0 : decode cX8_words 0 = .ok (.aload_n 0, 1) := by decide +kernel
theorem dX8_words_1 : decode cX8_words 1 = .ok (.iload_n 1, 1) := by decide +kernel
theorem dX8_words_2 : decode cX8_words 2 = .ok (.iconst 0, 1) := by decide +kernel
theorem dX8_words_3 : decode cX8_words 3 = .ok (.iload_n 2, 1) := by decide +kernel
theorem dX8_words_4 : decode cX8_words 4 = .ok (.bipush 20, 2) := by decide +kernel
theorem dX8_words_6 : decode cX8_words 6 = .ok (.invokevirtual 175, 3) := by decide +kernel
theorem dX8_words_9 : decode cX8_words 9 = .ok (.istore_n 3, 1) := by decide +kernel
theorem dX8_words_10 : decode cX8_words 10 = .ok (.iload_n 3, 1) := by decide +kernel
theorem dX8_words_11 : decode cX8_words 11 = .ok (.ifCond .eq 11, 3) := by decide +kernel
theorem dX8_words_14 : decode cX8_words 14 = .ok (.aload_n 0, 1) := by decide +kernel
theorem dX8_words_15 : decode cX8_words 15 = .ok (.iload_n 3, 1) := by decide +kernel
theorem dX8_words_16 : decode cX8_words 16 = .ok (.invokevirtual 87, 3) := by decide +kernel
theorem dX8_words_19 : decode cX8_words 19 = .ok (.goto 10, 3) := by decide +kernel
theorem dX8_words_22 : decode cX8_words 22 = .ok (.aload_n 0, 1) := by decide +kernel
theorem dX8_words_23 : decode cX8_words 23 = .ok (.iload_n 1, 1) := by decide +kernel
theorem dX8_words_24 : decode cX8_words 24 = .ok (.iload_n 2, 1) := by decide +kernel
theorem dX8_words_25 : decode cX8_words 25 = .ok (.iconst 0, 1) := by decide +kernel
theorem dX8_words_26 : decode cX8_words 26 = .ok (.invokevirtual 179, 3) := by decide +kernel
theorem dX8_words_29 : decode cX8_words 29 = .ok (.ireturn, 1) := by decide +kernel
set_option maxRecDepth 20000 in
theorem ggX8_unheard_X8_wrongSteps : GoodIn wsX8_unheard wsX8_wrongSteps := goodIn_r _ [5, 6, 7, 4, 8, 9, 10, 11] (by decide +kernel) (by decide +kernel)
set_option maxRecDepth 20000 in
theorem gX8_unheard_X8_wrongSteps : GoodIn wsX8_unheard (wsV RX8 175 RX8 yX8_wrongSteps wsX8_wrongSteps) := goodIn_app (goodIn_of _ (by decide +kernel)) ggX8_unheard_X8_wrongSteps
set_option maxRecDepth 20000 in
theorem ggX8_unheard_X8_no : GoodIn wsX8_unheard wsX8_no := goodIn_r _ [15, 16, 71, 72, 73, 74, 75, 76, 77, 78, 79, 80, 81, 82, 83, 84, 85, 86, 87, 88, 89] (by decide +kernel) (by decide +kernel)
set_option maxRecDepth 20000 in
theorem gX8_unheard_X8_no : GoodIn wsX8_unheard (wsV RX8 87 RX8 yX8_no wsX8_no) := goodIn_app (goodIn_of _ (by decide +kernel)) ggX8_unheard_X8_no
set_option maxRecDepth 20000 in
theorem ggX8_unheard_X8_mostIn : GoodIn wsX8_unheard wsX8_mostIn := goodIn_r _ [20, 21, 22, 23, 24, 25, 4, 26, 27, 28, 29, 30, 31, 32, 33, 34, 35, 36, 37, 38, 39, 40, 41, 42, 43, 44, 45, 46, 47, 48, 49, 50, 51, 52, 53, 54, 55, 56, 57, 58, 6, 7, 8, 9, 10, 11, 59, 60, 61, 62, 63, 64, 65, 66, 67, 68, 69, 70, 71, 72, 73, 74, 75, 76, 77, 78, 79, 80, 81, 82, 83, 84, 85, 86, 87, 88, 89] (by decide +kernel) (by decide +kernel)
set_option maxRecDepth 20000 in
theorem gX8_unheard_X8_mostIn : GoodIn wsX8_unheard (wsV RX8 179 RX8 yX8_mostIn wsX8_mostIn) := goodIn_app (goodIn_of _ (by decide +kernel)) ggX8_unheard_X8_mostIn
theorem dX8_unheard_0 : decode cX8_unheard 0 = .ok (.aload_n 0, 1) := by decide +kernel
theorem dX8_unheard_1 : decode cX8_unheard 1 = .ok (.iload_n 1, 1) := by decide +kernel
theorem dX8_unheard_2 : decode cX8_unheard 2 = .ok (.iconst 0, 1) := by decide +kernel
theorem dX8_unheard_3 : decode cX8_unheard 3 = .ok (.iload_n 2, 1) := by decide +kernel
theorem dX8_unheard_4 : decode cX8_unheard 4 = .ok (.bipush 20, 2) := by decide +kernel
theorem dX8_unheard_6 : decode cX8_unheard 6 = .ok (.invokevirtual 175, 3) := by decide +kernel
theorem dX8_unheard_9 : decode cX8_unheard 9 = .ok (.istore_n 3, 1) := by decide +kernel
theorem dX8_unheard_10 : decode cX8_unheard 10 = .ok (.iload_n 3, 1) := by decide +kernel
theorem dX8_unheard_11 : decode cX8_unheard 11 = .ok (.ifCond .eq 11, 3) := by decide +kernel
theorem dX8_unheard_14 : decode cX8_unheard 14 = .ok (.aload_n 0, 1) := by decide +kernel
theorem dX8_unheard_15 : decode cX8_unheard 15 = .ok (.iload_n 3, 1) := by decide +kernel
theorem dX8_unheard_16 : decode cX8_unheard 16 = .ok (.invokevirtual 87, 3) := by decide +kernel
theorem dX8_unheard_19 : decode cX8_unheard 19 = .ok (.goto 10, 3) := by decide +kernel
theorem dX8_unheard_22 : decode cX8_unheard 22 = .ok (.aload_n 0, 1) := by decide +kernel
theorem dX8_unheard_23 : decode cX8_unheard 23 = .ok (.iload_n 1, 1) := by decide +kernel
theorem dX8_unheard_24 : decode cX8_unheard 24 = .ok (.iload_n 2, 1) := by decide +kernel
theorem dX8_unheard_25 : decode cX8_unheard 25 = .ok (.iconst 1, 1) := by decide +kernel
theorem dX8_unheard_26 : decode cX8_unheard 26 = .ok (.invokevirtual 179, 3) := by decide +kernel
theorem dX8_unheard_29 : decode cX8_unheard 29 = .ok (.ireturn, 1) := by decide +kernel
set_option maxRecDepth 20000 in
theorem ggX8_talk_X8_wrongSteps : GoodIn wsX8_talk wsX8_wrongSteps := goodIn_r _ [7, 8, 9, 6, 10, 11, 12, 13] (by decide +kernel) (by decide +kernel)
set_option maxRecDepth 20000 in
theorem gX8_talk_X8_wrongSteps : GoodIn wsX8_talk (wsV RX8 175 RX8 yX8_wrongSteps wsX8_wrongSteps) := goodIn_app (goodIn_of _ (by decide +kernel)) ggX8_talk_X8_wrongSteps
set_option maxRecDepth 20000 in
theorem ggX8_talk_X8_no : GoodIn wsX8_talk wsX8_no := goodIn_r _ [17, 18, 46, 47, 48, 49, 50, 51, 52, 53, 54, 55, 56, 57, 58, 59, 60, 61, 62, 63, 64] (by decide +kernel) (by decide +kernel)
set_option maxRecDepth 20000 in
theorem gX8_talk_X8_no : GoodIn wsX8_talk (wsV RX8 87 RX8 yX8_no wsX8_no) := goodIn_app (goodIn_of _ (by decide +kernel)) ggX8_talk_X8_no
set_option maxRecDepth 20000 in
theorem ggX8_talk_X8_canBe : GoodIn wsX8_talk wsX8_canBe := goodIn_r _ [22, 23, 24, 25, 6, 26, 46, 47, 48, 49, 50, 51, 52, 53, 54, 55, 56, 57, 58, 59, 60, 61, 62, 63, 64] (by decide +kernel) (by decide +kernel)
set_option maxRecDepth 20000 in
theorem gX8_talk_X8_canBe : GoodIn wsX8_talk (wsV RX8 75 RX8 yX8_canBe wsX8_canBe) := goodIn_app (goodIn_of _ (by decide +kernel)) ggX8_talk_X8_canBe
set_option maxRecDepth 20000 in
theorem ggX8_talk_X8_at : GoodIn wsX8_talk wsX8_at := goodIn_r _ [29] (by decide +kernel) (by decide +kernel)
set_option maxRecDepth 20000 in
theorem gX8_talk_X8_at : GoodIn wsX8_talk (va_wsS RX8 152 yX8_at wsX8_at) := goodIn_app (goodIn_of _ (by decide +kernel)) ggX8_talk_X8_at
set_option maxRecDepth 20000 in
theorem ggX8_talk_X8_wordsOn : GoodIn wsX8_talk wsX8_wordsOn := goodIn_r _ [33, 23, 46, 47, 48, 49, 50, 51, 52, 53, 54, 55, 56, 57, 58, 59, 60, 61, 62, 63, 64] (by decide +kernel) (by decide +kernel)
set_option maxRecDepth 20000 in
theorem gX8_talk_X8_wordsOn : GoodIn wsX8_talk (wsV RX8 84 RX8 yX8_wordsOn wsX8_wordsOn) := goodIn_app (goodIn_of _ (by decide +kernel)) ggX8_talk_X8_wordsOn
set_option maxRecDepth 20000 in
theorem ggX8_talk_X8_gone : GoodIn wsX8_talk wsX8_gone := goodIn_r _ [37, 8, 9, 6, 10, 11, 12, 13, 19, 20, 21, 22, 23, 24, 25, 26, 46, 47, 48, 49, 50, 51, 52, 53, 54, 55, 56, 57, 58, 59, 60, 61, 62, 63, 64] (by decide +kernel) (by decide +kernel)
set_option maxRecDepth 20000 in
theorem gX8_talk_X8_gone : GoodIn wsX8_talk (wsV RX8 128 RX8 yX8_gone wsX8_gone) := goodIn_app (goodIn_of _ (by decide +kernel)) ggX8_talk_X8_gone
set_option maxRecDepth 20000 in
theorem ggX8_talk_X8_isCorner : GoodIn wsX8_talk wsX8_isCorner := goodIn_r _ [41, 42, 43, 44, 6, 45, 23, 46, 47, 48, 49, 50, 51, 52, 53, 54, 55, 56, 57, 58, 59, 60, 61, 62, 63, 64] (by decide +kernel) (by decide +kernel)
set_option maxRecDepth 20000 in
theorem gX8_talk_X8_isCorner : GoodIn wsX8_talk (wsV RX8 81 RX8 yX8_isCorner wsX8_isCorner) := goodIn_app (goodIn_of _ (by decide +kernel)) ggX8_talk_X8_isCorner
theorem dX8_talk_0 : decode cX8_talk 0 = .ok (.aload_n 0, 1) := by decide +kernel
theorem dX8_talk_1 : decode cX8_talk 1 = .ok (.iload_n 1, 1) := by decide +kernel
theorem dX8_talk_2 : decode cX8_talk 2 = .ok (.iconst 1, 1) := by decide +kernel
theorem dX8_talk_3 : decode cX8_talk 3 = .ok (.iload_n 2, 1) := by decide +kernel
theorem dX8_talk_4 : decode cX8_talk 4 = .ok (.bipush 40, 2) := by decide +kernel
theorem dX8_talk_6 : decode cX8_talk 6 = .ok (.invokevirtual 175, 3) := by decide +kernel
theorem dX8_talk_9 : decode cX8_talk 9 = .ok (.istore_n 3, 1) := by decide +kernel
theorem dX8_talk_10 : decode cX8_talk 10 = .ok (.iload_n 3, 1) := by decide +kernel
theorem dX8_talk_11 : decode cX8_talk 11 = .ok (.ifCond .eq 9, 3) := by decide +kernel
theorem dX8_talk_14 : decode cX8_talk 14 = .ok (.aload_n 0, 1) := by decide +kernel
theorem dX8_talk_15 : decode cX8_talk 15 = .ok (.iload_n 3, 1) := by decide +kernel
theorem dX8_talk_16 : decode cX8_talk 16 = .ok (.invokevirtual 87, 3) := by decide +kernel
theorem dX8_talk_19 : decode cX8_talk 19 = .ok (.ireturn, 1) := by decide +kernel
theorem dX8_talk_20 : decode cX8_talk 20 = .ok (.aload_n 0, 1) := by decide +kernel
theorem dX8_talk_21 : decode cX8_talk 21 = .ok (.iload_n 1, 1) := by decide +kernel
theorem dX8_talk_22 : decode cX8_talk 22 = .ok (.invokevirtual 75, 3) := by decide +kernel
theorem dX8_talk_25 : decode cX8_talk 25 = .ok (.ifCond .ne 6, 3) := by decide +kernel
theorem dX8_talk_28 : decode cX8_talk 28 = .ok (.bipush (-9), 2) := by decide +kernel
theorem dX8_talk_30 : decode cX8_talk 30 = .ok (.ireturn, 1) := by decide +kernel
theorem dX8_talk_31 : decode cX8_talk 31 = .ok (.iconst 0, 1) := by decide +kernel
theorem dX8_talk_32 : decode cX8_talk 32 = .ok (.istore 4, 2) := by decide +kernel
theorem dX8_talk_34 : decode cX8_talk 34 = .ok (.iload 4, 2) := by decide +kernel
theorem dX8_talk_36 : decode cX8_talk 36 = .ok (.sipush 180, 3) := by decide +kernel
theorem dX8_talk_39 : decode cX8_talk 39 = .ok (.if_icmp .ge 17, 3) := by decide +kernel
theorem dX8_talk_42 : decode cX8_talk 42 = .ok (.aload_n 0, 1) := by decide +kernel
theorem dX8_talk_43 : decode cX8_talk 43 = .ok (.getfield 37, 3) := by decide +kernel
theorem dX8_talk_46 : decode cX8_talk 46 = .ok (.iload 4, 2) := by decide +kernel
theorem dX8_talk_48 : decode cX8_talk 48 = .ok (.iconst (-1), 1) := by decide +kernel
theorem dX8_talk_49 : decode cX8_talk 49 = .ok (.iastore, 1) := by decide +kernel
theorem dX8_talk_50 : decode cX8_talk 50 = .ok (.iinc 4 1, 3) := by decide +kernel
theorem dX8_talk_53 : decode cX8_talk 53 = .ok (.goto (-19), 3) := by decide +kernel
theorem dX8_talk_56 : decode cX8_talk 56 = .ok (.aload_n 0, 1) := by decide +kernel
theorem dX8_talk_57 : decode cX8_talk 57 = .ok (.getfield 37, 3) := by decide +kernel
theorem dX8_talk_60 : decode cX8_talk 60 = .ok (.iload_n 1, 1) := by decide +kernel
theorem dX8_talk_61 : decode cX8_talk 61 = .ok (.iconst 4, 1) := by decide +kernel
theorem dX8_talk_62 : decode cX8_talk 62 = .ok (.invokestatic 152, 3) := by decide +kernel
theorem dX8_talk_65 : decode cX8_talk 65 = .ok (.iconst 0, 1) := by decide +kernel
theorem dX8_talk_66 : decode cX8_talk 66 = .ok (.iastore, 1) := by decide +kernel
theorem dX8_talk_67 : decode cX8_talk 67 = .ok (.aload_n 0, 1) := by decide +kernel
theorem dX8_talk_68 : decode cX8_talk 68 = .ok (.iload_n 1, 1) := by decide +kernel
theorem dX8_talk_69 : decode cX8_talk 69 = .ok (.invokevirtual 84, 3) := by decide +kernel
theorem dX8_talk_72 : decode cX8_talk 72 = .ok (.iload_n 2, 1) := by decide +kernel
theorem dX8_talk_73 : decode cX8_talk 73 = .ok (.if_icmp .lt 5, 3) := by decide +kernel
theorem dX8_talk_76 : decode cX8_talk 76 = .ok (.iconst 0, 1) := by decide +kernel
theorem dX8_talk_77 : decode cX8_talk 77 = .ok (.ireturn, 1) := by decide +kernel
theorem dX8_talk_78 : decode cX8_talk 78 = .ok (.iconst 1, 1) := by decide +kernel
theorem dX8_talk_79 : decode cX8_talk 79 = .ok (.istore 4, 2) := by decide +kernel
theorem dX8_talk_81 : decode cX8_talk 81 = .ok (.iload 4, 2) := by decide +kernel
theorem dX8_talk_83 : decode cX8_talk 83 = .ok (.bipush 40, 2) := by decide +kernel
theorem dX8_talk_85 : decode cX8_talk 85 = .ok (.if_icmp .gt 223, 3) := by decide +kernel
theorem dX8_talk_88 : decode cX8_talk 88 = .ok (.iconst 0, 1) := by decide +kernel
theorem dX8_talk_89 : decode cX8_talk 89 = .ok (.istore 5, 2) := by decide +kernel
theorem dX8_talk_91 : decode cX8_talk 91 = .ok (.iload 5, 2) := by decide +kernel
theorem dX8_talk_93 : decode cX8_talk 93 = .ok (.sipush 180, 3) := by decide +kernel
theorem dX8_talk_96 : decode cX8_talk 96 = .ok (.if_icmp .ge 17, 3) := by decide +kernel
theorem dX8_talk_99 : decode cX8_talk 99 = .ok (.aload_n 0, 1) := by decide +kernel
theorem dX8_talk_100 : decode cX8_talk 100 = .ok (.getfield 40, 3) := by decide +kernel
theorem dX8_talk_103 : decode cX8_talk 103 = .ok (.iload 5, 2) := by decide +kernel
theorem dX8_talk_105 : decode cX8_talk 105 = .ok (.iconst (-1), 1) := by decide +kernel
theorem dX8_talk_106 : decode cX8_talk 106 = .ok (.iastore, 1) := by decide +kernel
theorem dX8_talk_107 : decode cX8_talk 107 = .ok (.iinc 5 1, 3) := by decide +kernel
theorem dX8_talk_110 : decode cX8_talk 110 = .ok (.goto (-19), 3) := by decide +kernel
theorem dX8_talk_113 : decode cX8_talk 113 = .ok (.iconst 0, 1) := by decide +kernel
theorem dX8_talk_114 : decode cX8_talk 114 = .ok (.istore 5, 2) := by decide +kernel
theorem dX8_talk_116 : decode cX8_talk 116 = .ok (.iload 5, 2) := by decide +kernel
theorem dX8_talk_118 : decode cX8_talk 118 = .ok (.bipush 36, 2) := by decide +kernel
theorem dX8_talk_120 : decode cX8_talk 120 = .ok (.if_icmp .ge 151, 3) := by decide +kernel
theorem dX8_talk_123 : decode cX8_talk 123 = .ok (.iconst 0, 1) := by decide +kernel
theorem dX8_talk_124 : decode cX8_talk 124 = .ok (.istore 6, 2) := by decide +kernel
theorem dX8_talk_126 : decode cX8_talk 126 = .ok (.iload 6, 2) := by decide +kernel
theorem dX8_talk_128 : decode cX8_talk 128 = .ok (.iconst 4, 1) := by decide +kernel
theorem dX8_talk_129 : decode cX8_talk 129 = .ok (.if_icmp .gt 136, 3) := by decide +kernel
theorem dX8_talk_132 : decode cX8_talk 132 = .ok (.aload_n 0, 1) := by decide +kernel
theorem dX8_talk_133 : decode cX8_talk 133 = .ok (.getfield 37, 3) := by decide +kernel
theorem dX8_talk_136 : decode cX8_talk 136 = .ok (.iload 5, 2) := by decide +kernel
theorem dX8_talk_138 : decode cX8_talk 138 = .ok (.iload 6, 2) := by decide +kernel
theorem dX8_talk_140 : decode cX8_talk 140 = .ok (.invokestatic 152, 3) := by decide +kernel
theorem dX8_talk_143 : decode cX8_talk 143 = .ok (.iaload, 1) := by decide +kernel
theorem dX8_talk_144 : decode cX8_talk 144 = .ok (.istore 7, 2) := by decide +kernel
theorem dX8_talk_146 : decode cX8_talk 146 = .ok (.iconst 0, 1) := by decide +kernel
theorem dX8_talk_147 : decode cX8_talk 147 = .ok (.istore 8, 2) := by decide +kernel
theorem dX8_talk_149 : decode cX8_talk 149 = .ok (.iload 8, 2) := by decide +kernel
theorem dX8_talk_151 : decode cX8_talk 151 = .ok (.iconst 4, 1) := by decide +kernel
theorem dX8_talk_152 : decode cX8_talk 152 = .ok (.if_icmp .ge 107, 3) := by decide +kernel
theorem dX8_talk_155 : decode cX8_talk 155 = .ok (.iload 7, 2) := by decide +kernel
theorem dX8_talk_157 : decode cX8_talk 157 = .ok (.ifCond .lt 102, 3) := by decide +kernel
theorem dX8_talk_160 : decode cX8_talk 160 = .ok (.aload_n 0, 1) := by decide +kernel
theorem dX8_talk_161 : decode cX8_talk 161 = .ok (.iload 5, 2) := by decide +kernel
theorem dX8_talk_163 : decode cX8_talk 163 = .ok (.iload 8, 2) := by decide +kernel
theorem dX8_talk_165 : decode cX8_talk 165 = .ok (.invokevirtual 128, 3) := by decide +kernel
theorem dX8_talk_168 : decode cX8_talk 168 = .ok (.istore 9, 2) := by decide +kernel
theorem dX8_talk_170 : decode cX8_talk 170 = .ok (.iload 9, 2) := by decide +kernel
theorem dX8_talk_172 : decode cX8_talk 172 = .ok (.ifCond .ge 6, 3) := by decide +kernel
theorem dX8_talk_175 : decode cX8_talk 175 = .ok (.goto 78, 3) := by decide +kernel
theorem dX8_talk_178 : decode cX8_talk 178 = .ok (.aload_n 0, 1) := by decide +kernel
theorem dX8_talk_179 : decode cX8_talk 179 = .ok (.iload 5, 2) := by decide +kernel
theorem dX8_talk_181 : decode cX8_talk 181 = .ok (.iload 6, 2) := by decide +kernel
theorem dX8_talk_183 : decode cX8_talk 183 = .ok (.iload 8, 2) := by decide +kernel
theorem dX8_talk_185 : decode cX8_talk 185 = .ok (.invokevirtual 81, 3) := by decide +kernel
theorem dX8_talk_188 : decode cX8_talk 188 = .ok (.ifCond .eq 7, 3) := by decide +kernel
theorem dX8_talk_191 : decode cX8_talk 191 = .ok (.iconst 0, 1) := by decide +kernel
theorem dX8_talk_192 : decode cX8_talk 192 = .ok (.goto 12, 3) := by decide +kernel
theorem dX8_talk_195 : decode cX8_talk 195 = .ok (.iload 7, 2) := by decide +kernel
theorem dX8_talk_197 : decode cX8_talk 197 = .ok (.aload_n 0, 1) := by decide +kernel
theorem dX8_talk_198 : decode cX8_talk 198 = .ok (.iload 5, 2) := by decide +kernel
theorem dX8_talk_200 : decode cX8_talk 200 = .ok (.invokevirtual 84, 3) := by decide +kernel
theorem dX8_talk_203 : decode cX8_talk 203 = .ok (.iadd, 1) := by decide +kernel
theorem dX8_talk_204 : decode cX8_talk 204 = .ok (.istore 10, 2) := by decide +kernel
theorem dX8_talk_206 : decode cX8_talk 206 = .ok (.iload 10, 2) := by decide +kernel
theorem dX8_talk_208 : decode cX8_talk 208 = .ok (.aload_n 0, 1) := by decide +kernel
theorem dX8_talk_209 : decode cX8_talk 209 = .ok (.iload 9, 2) := by decide +kernel
theorem dX8_talk_211 : decode cX8_talk 211 = .ok (.invokevirtual 84, 3) := by decide +kernel
theorem dX8_talk_214 : decode cX8_talk 214 = .ok (.iadd, 1) := by decide +kernel
theorem dX8_talk_215 : decode cX8_talk 215 = .ok (.iload_n 2, 1) := by decide +kernel
theorem dX8_talk_216 : decode cX8_talk 216 = .ok (.if_icmp .lt 6, 3) := by decide +kernel
theorem dX8_talk_219 : decode cX8_talk 219 = .ok (.iload 4, 2) := by decide +kernel
theorem dX8_talk_221 : decode cX8_talk 221 = .ok (.ireturn, 1) := by decide +kernel
theorem dX8_talk_222 : decode cX8_talk 222 = .ok (.iload 10, 2) := by decide +kernel
theorem dX8_talk_224 : decode cX8_talk 224 = .ok (.aload_n 0, 1) := by decide +kernel
theorem dX8_talk_225 : decode cX8_talk 225 = .ok (.getfield 40, 3) := by decide +kernel
theorem dX8_talk_228 : decode cX8_talk 228 = .ok (.iload 9, 2) := by decide +kernel
theorem dX8_talk_230 : decode cX8_talk 230 = .ok (.iload 8, 2) := by decide +kernel
theorem dX8_talk_232 : decode cX8_talk 232 = .ok (.invokestatic 152, 3) := by decide +kernel
theorem dX8_talk_235 : decode cX8_talk 235 = .ok (.iaload, 1) := by decide +kernel
theorem dX8_talk_236 : decode cX8_talk 236 = .ok (.if_icmp .le 17, 3) := by decide +kernel
theorem dX8_talk_239 : decode cX8_talk 239 = .ok (.aload_n 0, 1) := by decide +kernel
theorem dX8_talk_240 : decode cX8_talk 240 = .ok (.getfield 40, 3) := by decide +kernel
theorem dX8_talk_243 : decode cX8_talk 243 = .ok (.iload 9, 2) := by decide +kernel
theorem dX8_talk_245 : decode cX8_talk 245 = .ok (.iload 8, 2) := by decide +kernel
theorem dX8_talk_247 : decode cX8_talk 247 = .ok (.invokestatic 152, 3) := by decide +kernel
theorem dX8_talk_250 : decode cX8_talk 250 = .ok (.iload 10, 2) := by decide +kernel
theorem dX8_talk_252 : decode cX8_talk 252 = .ok (.iastore, 1) := by decide +kernel
theorem dX8_talk_253 : decode cX8_talk 253 = .ok (.iinc 8 1, 3) := by decide +kernel
theorem dX8_talk_256 : decode cX8_talk 256 = .ok (.goto (-107), 3) := by decide +kernel
theorem dX8_talk_259 : decode cX8_talk 259 = .ok (.iinc 6 1, 3) := by decide +kernel
theorem dX8_talk_262 : decode cX8_talk 262 = .ok (.goto (-136), 3) := by decide +kernel
theorem dX8_talk_265 : decode cX8_talk 265 = .ok (.iinc 5 1, 3) := by decide +kernel
theorem dX8_talk_268 : decode cX8_talk 268 = .ok (.goto (-152), 3) := by decide +kernel
theorem dX8_talk_271 : decode cX8_talk 271 = .ok (.iconst 0, 1) := by decide +kernel
theorem dX8_talk_272 : decode cX8_talk 272 = .ok (.istore 5, 2) := by decide +kernel
theorem dX8_talk_274 : decode cX8_talk 274 = .ok (.iload 5, 2) := by decide +kernel
theorem dX8_talk_276 : decode cX8_talk 276 = .ok (.sipush 180, 3) := by decide +kernel
theorem dX8_talk_279 : decode cX8_talk 279 = .ok (.if_icmp .ge 23, 3) := by decide +kernel
theorem dX8_talk_282 : decode cX8_talk 282 = .ok (.aload_n 0, 1) := by decide +kernel
theorem dX8_talk_283 : decode cX8_talk 283 = .ok (.getfield 37, 3) := by decide +kernel
theorem dX8_talk_286 : decode cX8_talk 286 = .ok (.iload 5, 2) := by decide +kernel
theorem dX8_talk_288 : decode cX8_talk 288 = .ok (.aload_n 0, 1) := by decide +kernel
theorem dX8_talk_289 : decode cX8_talk 289 = .ok (.getfield 40, 3) := by decide +kernel
theorem dX8_talk_292 : decode cX8_talk 292 = .ok (.iload 5, 2) := by decide +kernel
theorem dX8_talk_294 : decode cX8_talk 294 = .ok (.iaload, 1) := by decide +kernel
theorem dX8_talk_295 : decode cX8_talk 295 = .ok (.iastore, 1) := by decide +kernel
theorem dX8_talk_296 : decode cX8_talk 296 = .ok (.iinc 5 1, 3) := by decide +kernel
theorem dX8_talk_299 : decode cX8_talk 299 = .ok (.goto (-25), 3) := by decide +kernel
theorem dX8_talk_302 : decode cX8_talk 302 = .ok (.iinc 4 1, 3) := by decide +kernel
theorem dX8_talk_305 : decode cX8_talk 305 = .ok (.goto (-224), 3) := by decide +kernel
theorem dX8_talk_308 : decode cX8_talk 308 = .ok (.bipush (-9), 2) := by decide +kernel
theorem dX8_talk_310 : decode cX8_talk 310 = .ok (.ireturn, 1) := by decide +kernel
set_option maxRecDepth 20000 in
theorem ggX8_meet_X8_isSquare : GoodIn wsX8_meet wsX8_isSquare := goodIn_r _ [7, 8, 9, 6, 10] (by decide +kernel) (by decide +kernel)
set_option maxRecDepth 20000 in
theorem gX8_meet_X8_isSquare : GoodIn wsX8_meet (va_wsS RX8 72 yX8_isSquare wsX8_isSquare) := goodIn_app (goodIn_of _ (by decide +kernel)) ggX8_meet_X8_isSquare
set_option maxRecDepth 20000 in
theorem ggX8_meet_X8_no : GoodIn wsX8_meet wsX8_no := goodIn_r _ [14, 15, 32, 33, 34, 35, 36, 37, 38, 39, 40, 41, 42, 43, 44, 45, 46, 47, 48, 49, 50] (by decide +kernel) (by decide +kernel)
set_option maxRecDepth 20000 in
theorem gX8_meet_X8_no : GoodIn wsX8_meet (wsV RX8 87 RX8 yX8_no wsX8_no) := goodIn_app (goodIn_of _ (by decide +kernel)) ggX8_meet_X8_no
set_option maxRecDepth 20000 in
theorem ggX8_meet_X8_isIn : GoodIn wsX8_meet wsX8_isIn := goodIn_r _ [10] (by decide +kernel) (by decide +kernel)
set_option maxRecDepth 20000 in
theorem gX8_meet_X8_isIn : GoodIn wsX8_meet (va_wsS RX8 53 yX8_isIn wsX8_isIn) := goodIn_app (goodIn_of _ (by decide +kernel)) ggX8_meet_X8_isIn
set_option maxRecDepth 20000 in
theorem ggX8_meet_X8_stepsAll : GoodIn wsX8_meet wsX8_stepsAll := goodIn_r _ [19, 2, 3, 20, 21, 22, 6, 23, 24, 25, 26, 27, 28, 29, 30, 31, 4, 5, 7, 8, 9, 10, 32, 33, 34, 35, 36, 37, 38, 39, 40, 41, 42, 43, 44, 45, 46, 47, 48, 49, 50] (by decide +kernel) (by decide +kernel)
set_option maxRecDepth 20000 in
theorem gX8_meet_X8_stepsAll : GoodIn wsX8_meet (wsV RX8 141 RX8 yX8_stepsAll wsX8_stepsAll) := goodIn_app (goodIn_of _ (by decide +kernel)) ggX8_meet_X8_stepsAll
theorem dX8_meet_0 : decode cX8_meet 0 = .ok (.iload_n 1, 1) := by decide +kernel
theorem dX8_meet_1 : decode cX8_meet 1 = .ok (.invokestatic 72, 3) := by decide +kernel
theorem dX8_meet_4 : decode cX8_meet 4 = .ok (.ifCond .eq 10, 3) := by decide +kernel
theorem dX8_meet_7 : decode cX8_meet 7 = .ok (.iload_n 2, 1) := by decide +kernel
theorem dX8_meet_8 : decode cX8_meet 8 = .ok (.invokestatic 72, 3) := by decide +kernel
theorem dX8_meet_11 : decode cX8_meet 11 = .ok (.ifCond .ne 9, 3) := by decide +kernel
theorem dX8_meet_14 : decode cX8_meet 14 = .ok (.aload_n 0, 1) := by decide +kernel
theorem dX8_meet_15 : decode cX8_meet 15 = .ok (.iconst (-1), 1) := by decide +kernel
theorem dX8_meet_16 : decode cX8_meet 16 = .ok (.invokevirtual 87, 3) := by decide +kernel
theorem dX8_meet_19 : decode cX8_meet 19 = .ok (.ireturn, 1) := by decide +kernel
theorem dX8_meet_20 : decode cX8_meet 20 = .ok (.iload_n 3, 1) := by decide +kernel
theorem dX8_meet_21 : decode cX8_meet 21 = .ok (.iconst 0, 1) := by decide +kernel
theorem dX8_meet_22 : decode cX8_meet 22 = .ok (.iconst 1, 1) := by decide +kernel
theorem dX8_meet_23 : decode cX8_meet 23 = .ok (.invokestatic 53, 3) := by decide +kernel
theorem dX8_meet_26 : decode cX8_meet 26 = .ok (.ifCond .ne 10, 3) := by decide +kernel
theorem dX8_meet_29 : decode cX8_meet 29 = .ok (.aload_n 0, 1) := by decide +kernel
theorem dX8_meet_30 : decode cX8_meet 30 = .ok (.bipush (-2), 2) := by decide +kernel
theorem dX8_meet_32 : decode cX8_meet 32 = .ok (.invokevirtual 87, 3) := by decide +kernel
theorem dX8_meet_35 : decode cX8_meet 35 = .ok (.ireturn, 1) := by decide +kernel
theorem dX8_meet_36 : decode cX8_meet 36 = .ok (.aload_n 0, 1) := by decide +kernel
theorem dX8_meet_37 : decode cX8_meet 37 = .ok (.iload_n 1, 1) := by decide +kernel
theorem dX8_meet_38 : decode cX8_meet 38 = .ok (.invokevirtual 141, 3) := by decide +kernel
theorem dX8_meet_41 : decode cX8_meet 41 = .ok (.iconst 0, 1) := by decide +kernel
theorem dX8_meet_42 : decode cX8_meet 42 = .ok (.istore 4, 2) := by decide +kernel
theorem dX8_meet_44 : decode cX8_meet 44 = .ok (.iload 4, 2) := by decide +kernel
theorem dX8_meet_46 : decode cX8_meet 46 = .ok (.bipush 36, 2) := by decide +kernel
theorem dX8_meet_48 : decode cX8_meet 48 = .ok (.if_icmp .ge 23, 3) := by decide +kernel
theorem dX8_meet_51 : decode cX8_meet 51 = .ok (.aload_n 0, 1) := by decide +kernel
theorem dX8_meet_52 : decode cX8_meet 52 = .ok (.getfield 43, 3) := by decide +kernel
theorem dX8_meet_55 : decode cX8_meet 55 = .ok (.iload 4, 2) := by decide +kernel
theorem dX8_meet_57 : decode cX8_meet 57 = .ok (.aload_n 0, 1) := by decide +kernel
theorem dX8_meet_58 : decode cX8_meet 58 = .ok (.getfield 34, 3) := by decide +kernel
theorem dX8_meet_61 : decode cX8_meet 61 = .ok (.iload 4, 2) := by decide +kernel
theorem dX8_meet_63 : decode cX8_meet 63 = .ok (.iaload, 1) := by decide +kernel
theorem dX8_meet_64 : decode cX8_meet 64 = .ok (.iastore, 1) := by decide +kernel
theorem dX8_meet_65 : decode cX8_meet 65 = .ok (.iinc 4 1, 3) := by decide +kernel
theorem dX8_meet_68 : decode cX8_meet 68 = .ok (.goto (-24), 3) := by decide +kernel
theorem dX8_meet_71 : decode cX8_meet 71 = .ok (.aload_n 0, 1) := by decide +kernel
theorem dX8_meet_72 : decode cX8_meet 72 = .ok (.iload_n 2, 1) := by decide +kernel
theorem dX8_meet_73 : decode cX8_meet 73 = .ok (.invokevirtual 141, 3) := by decide +kernel
theorem dX8_meet_76 : decode cX8_meet 76 = .ok (.bipush (-9), 2) := by decide +kernel
theorem dX8_meet_78 : decode cX8_meet 78 = .ok (.istore 4, 2) := by decide +kernel
theorem dX8_meet_80 : decode cX8_meet 80 = .ok (.ldc 140, 2) := by decide +kernel
theorem dX8_meet_82 : decode cX8_meet 82 = .ok (.istore 5, 2) := by decide +kernel
theorem dX8_meet_84 : decode cX8_meet 84 = .ok (.iconst 0, 1) := by decide +kernel
theorem dX8_meet_85 : decode cX8_meet 85 = .ok (.istore 6, 2) := by decide +kernel
theorem dX8_meet_87 : decode cX8_meet 87 = .ok (.iload 6, 2) := by decide +kernel
theorem dX8_meet_89 : decode cX8_meet 89 = .ok (.bipush 36, 2) := by decide +kernel
theorem dX8_meet_91 : decode cX8_meet 91 = .ok (.if_icmp .ge 63, 3) := by decide +kernel
theorem dX8_meet_94 : decode cX8_meet 94 = .ok (.aload_n 0, 1) := by decide +kernel
theorem dX8_meet_95 : decode cX8_meet 95 = .ok (.getfield 34, 3) := by decide +kernel
theorem dX8_meet_98 : decode cX8_meet 98 = .ok (.iload 6, 2) := by decide +kernel
theorem dX8_meet_100 : decode cX8_meet 100 = .ok (.iaload, 1) := by decide +kernel
theorem dX8_meet_101 : decode cX8_meet 101 = .ok (.aload_n 0, 1) := by decide +kernel
theorem dX8_meet_102 : decode cX8_meet 102 = .ok (.getfield 43, 3) := by decide +kernel
theorem dX8_meet_105 : decode cX8_meet 105 = .ok (.iload 6, 2) := by decide +kernel
theorem dX8_meet_107 : decode cX8_meet 107 = .ok (.iaload, 1) := by decide +kernel
theorem dX8_meet_108 : decode cX8_meet 108 = .ok (.if_icmp .le 13, 3) := by decide +kernel
theorem dX8_meet_111 : decode cX8_meet 111 = .ok (.aload_n 0, 1) := by decide +kernel
theorem dX8_meet_112 : decode cX8_meet 112 = .ok (.getfield 34, 3) := by decide +kernel
theorem dX8_meet_115 : decode cX8_meet 115 = .ok (.iload 6, 2) := by decide +kernel
theorem dX8_meet_117 : decode cX8_meet 117 = .ok (.iaload, 1) := by decide +kernel
theorem dX8_meet_118 : decode cX8_meet 118 = .ok (.goto 10, 3) := by decide +kernel
theorem dX8_meet_121 : decode cX8_meet 121 = .ok (.aload_n 0, 1) := by decide +kernel
theorem dX8_meet_122 : decode cX8_meet 122 = .ok (.getfield 43, 3) := by decide +kernel
theorem dX8_meet_125 : decode cX8_meet 125 = .ok (.iload 6, 2) := by decide +kernel
theorem dX8_meet_127 : decode cX8_meet 127 = .ok (.iaload, 1) := by decide +kernel
theorem dX8_meet_128 : decode cX8_meet 128 = .ok (.istore 7, 2) := by decide +kernel
theorem dX8_meet_130 : decode cX8_meet 130 = .ok (.iload 7, 2) := by decide +kernel
theorem dX8_meet_132 : decode cX8_meet 132 = .ok (.iload 5, 2) := by decide +kernel
theorem dX8_meet_134 : decode cX8_meet 134 = .ok (.if_icmp .lt 6, 3) := by decide +kernel
theorem dX8_meet_137 : decode cX8_meet 137 = .ok (.goto 11, 3) := by decide +kernel
theorem dX8_meet_140 : decode cX8_meet 140 = .ok (.iload 6, 2) := by decide +kernel
theorem dX8_meet_142 : decode cX8_meet 142 = .ok (.istore 4, 2) := by decide +kernel
theorem dX8_meet_144 : decode cX8_meet 144 = .ok (.iload 7, 2) := by decide +kernel
theorem dX8_meet_146 : decode cX8_meet 146 = .ok (.istore 5, 2) := by decide +kernel
theorem dX8_meet_148 : decode cX8_meet 148 = .ok (.iinc 6 1, 3) := by decide +kernel
theorem dX8_meet_151 : decode cX8_meet 151 = .ok (.goto (-64), 3) := by decide +kernel
theorem dX8_meet_154 : decode cX8_meet 154 = .ok (.iload 4, 2) := by decide +kernel
theorem dX8_meet_156 : decode cX8_meet 156 = .ok (.ifCond .lt 8, 3) := by decide +kernel
theorem dX8_meet_159 : decode cX8_meet 159 = .ok (.iload_n 3, 1) := by decide +kernel
theorem dX8_meet_160 : decode cX8_meet 160 = .ok (.iconst 1, 1) := by decide +kernel
theorem dX8_meet_161 : decode cX8_meet 161 = .ok (.if_icmp .ne 8, 3) := by decide +kernel
theorem dX8_meet_164 : decode cX8_meet 164 = .ok (.iload 4, 2) := by decide +kernel
theorem dX8_meet_166 : decode cX8_meet 166 = .ok (.goto 5, 3) := by decide +kernel
theorem dX8_meet_169 : decode cX8_meet 169 = .ok (.iload 5, 2) := by decide +kernel
theorem dX8_meet_171 : decode cX8_meet 171 = .ok (.ireturn, 1) := by decide +kernel
set_option maxRecDepth 20000 in
theorem ggX8_roundOff_X8_isSquare : GoodIn wsX8_roundOff wsX8_isSquare := goodIn_r _ [6, 7, 8, 5, 9] (by decide +kernel) (by decide +kernel)
set_option maxRecDepth 20000 in
theorem gX8_roundOff_X8_isSquare : GoodIn wsX8_roundOff (va_wsS RX8 72 yX8_isSquare wsX8_isSquare) := goodIn_app (goodIn_of _ (by decide +kernel)) ggX8_roundOff_X8_isSquare
set_option maxRecDepth 20000 in
theorem ggX8_roundOff_X8_no : GoodIn wsX8_roundOff wsX8_no := goodIn_r _ [13, 14, 75, 76, 77, 78, 79, 80, 81, 82, 83, 84, 85, 86, 87, 88, 89, 90, 91, 92, 93] (by decide +kernel) (by decide +kernel)
set_option maxRecDepth 20000 in
theorem gX8_roundOff_X8_no : GoodIn wsX8_roundOff (wsV RX8 87 RX8 yX8_no wsX8_no) := goodIn_app (goodIn_of _ (by decide +kernel)) ggX8_roundOff_X8_no
set_option maxRecDepth 20000 in
theorem ggX8_roundOff_X8_cornersBy : GoodIn wsX8_roundOff wsX8_cornersBy := goodIn_r _ [18, 19, 20, 21, 5, 22, 23, 1, 24, 25, 26, 27, 2, 28, 29, 30, 31, 32, 33, 34, 35, 36, 37, 3, 4, 6, 7, 8, 9, 38, 39, 40, 41, 42, 43, 44, 45, 46, 47, 48, 49, 50, 51, 52, 53, 54, 55, 56, 57, 58, 59, 60, 61, 62, 63, 64, 65, 66, 67, 68, 69, 70, 71, 72, 73, 74, 75, 76, 77, 78, 79, 80, 81, 82, 83, 84, 85, 86, 87, 88, 89, 90, 91, 92, 93] (by decide +kernel) (by decide +kernel)
set_option maxRecDepth 20000 in
theorem gX8_roundOff_X8_cornersBy : GoodIn wsX8_roundOff (wsV RX8 166 RX8 yX8_cornersBy wsX8_cornersBy) := goodIn_app (goodIn_of _ (by decide +kernel)) ggX8_roundOff_X8_cornersBy
theorem dX8_roundOff_0 : decode cX8_roundOff 0 = .ok (.iload_n 1, 1) := by decide +kernel
theorem dX8_roundOff_1 : decode cX8_roundOff 1 = .ok (.invokestatic 72, 3) := by decide +kernel
theorem dX8_roundOff_4 : decode cX8_roundOff 4 = .ok (.ifCond .eq 10, 3) := by decide +kernel
theorem dX8_roundOff_7 : decode cX8_roundOff 7 = .ok (.iload_n 2, 1) := by decide +kernel
theorem dX8_roundOff_8 : decode cX8_roundOff 8 = .ok (.invokestatic 72, 3) := by decide +kernel
theorem dX8_roundOff_11 : decode cX8_roundOff 11 = .ok (.ifCond .ne 9, 3) := by decide +kernel
theorem dX8_roundOff_14 : decode cX8_roundOff 14 = .ok (.aload_n 0, 1) := by decide +kernel
theorem dX8_roundOff_15 : decode cX8_roundOff 15 = .ok (.iconst (-1), 1) := by decide +kernel
theorem dX8_roundOff_16 : decode cX8_roundOff 16 = .ok (.invokevirtual 87, 3) := by decide +kernel
theorem dX8_roundOff_19 : decode cX8_roundOff 19 = .ok (.ireturn, 1) := by decide +kernel
theorem dX8_roundOff_20 : decode cX8_roundOff 20 = .ok (.aload_n 0, 1) := by decide +kernel
theorem dX8_roundOff_21 : decode cX8_roundOff 21 = .ok (.iload_n 1, 1) := by decide +kernel
theorem dX8_roundOff_22 : decode cX8_roundOff 22 = .ok (.iload_n 2, 1) := by decide +kernel
theorem dX8_roundOff_23 : decode cX8_roundOff 23 = .ok (.bipush (-9), 2) := by decide +kernel
theorem dX8_roundOff_25 : decode cX8_roundOff 25 = .ok (.invokevirtual 166, 3) := by decide +kernel
theorem dX8_roundOff_28 : decode cX8_roundOff 28 = .ok (.istore_n 3, 1) := by decide +kernel
theorem dX8_roundOff_29 : decode cX8_roundOff 29 = .ok (.iload_n 3, 1) := by decide +kernel
theorem dX8_roundOff_30 : decode cX8_roundOff 30 = .ok (.ldc 140, 2) := by decide +kernel
theorem dX8_roundOff_32 : decode cX8_roundOff 32 = .ok (.if_icmp .lt 6, 3) := by decide +kernel
theorem dX8_roundOff_35 : decode cX8_roundOff 35 = .ok (.bipush (-9), 2) := by decide +kernel
theorem dX8_roundOff_37 : decode cX8_roundOff 37 = .ok (.ireturn, 1) := by decide +kernel
theorem dX8_roundOff_38 : decode cX8_roundOff 38 = .ok (.bipush (-9), 2) := by decide +kernel
theorem dX8_roundOff_40 : decode cX8_roundOff 40 = .ok (.istore 4, 2) := by decide +kernel
theorem dX8_roundOff_42 : decode cX8_roundOff 42 = .ok (.iload_n 3, 1) := by decide +kernel
theorem dX8_roundOff_43 : decode cX8_roundOff 43 = .ok (.sipush 1000, 3) := by decide +kernel
theorem dX8_roundOff_46 : decode cX8_roundOff 46 = .ok (.idiv, 1) := by decide +kernel
theorem dX8_roundOff_47 : decode cX8_roundOff 47 = .ok (.istore 5, 2) := by decide +kernel
theorem dX8_roundOff_49 : decode cX8_roundOff 49 = .ok (.iconst 0, 1) := by decide +kernel
theorem dX8_roundOff_50 : decode cX8_roundOff 50 = .ok (.istore 6, 2) := by decide +kernel
theorem dX8_roundOff_52 : decode cX8_roundOff 52 = .ok (.iload 6, 2) := by decide +kernel
theorem dX8_roundOff_54 : decode cX8_roundOff 54 = .ok (.bipush 36, 2) := by decide +kernel
theorem dX8_roundOff_56 : decode cX8_roundOff 56 = .ok (.if_icmp .ge 70, 3) := by decide +kernel
theorem dX8_roundOff_59 : decode cX8_roundOff 59 = .ok (.aload_n 0, 1) := by decide +kernel
theorem dX8_roundOff_60 : decode cX8_roundOff 60 = .ok (.getfield 9, 3) := by decide +kernel
theorem dX8_roundOff_63 : decode cX8_roundOff 63 = .ok (.iload 6, 2) := by decide +kernel
theorem dX8_roundOff_65 : decode cX8_roundOff 65 = .ok (.iaload, 1) := by decide +kernel
theorem dX8_roundOff_66 : decode cX8_roundOff 66 = .ok (.ifCond .eq 6, 3) := by decide +kernel
theorem dX8_roundOff_69 : decode cX8_roundOff 69 = .ok (.goto 51, 3) := by decide +kernel
theorem dX8_roundOff_72 : decode cX8_roundOff 72 = .ok (.aload_n 0, 1) := by decide +kernel
theorem dX8_roundOff_73 : decode cX8_roundOff 73 = .ok (.getfield 9, 3) := by decide +kernel
theorem dX8_roundOff_76 : decode cX8_roundOff 76 = .ok (.iload 6, 2) := by decide +kernel
theorem dX8_roundOff_78 : decode cX8_roundOff 78 = .ok (.iconst 2, 1) := by decide +kernel
theorem dX8_roundOff_79 : decode cX8_roundOff 79 = .ok (.iastore, 1) := by decide +kernel
theorem dX8_roundOff_80 : decode cX8_roundOff 80 = .ok (.aload_n 0, 1) := by decide +kernel
theorem dX8_roundOff_81 : decode cX8_roundOff 81 = .ok (.iload_n 1, 1) := by decide +kernel
theorem dX8_roundOff_82 : decode cX8_roundOff 82 = .ok (.iload_n 2, 1) := by decide +kernel
theorem dX8_roundOff_83 : decode cX8_roundOff 83 = .ok (.bipush (-9), 2) := by decide +kernel
theorem dX8_roundOff_85 : decode cX8_roundOff 85 = .ok (.invokevirtual 166, 3) := by decide +kernel
theorem dX8_roundOff_88 : decode cX8_roundOff 88 = .ok (.sipush 1000, 3) := by decide +kernel
theorem dX8_roundOff_91 : decode cX8_roundOff 91 = .ok (.idiv, 1) := by decide +kernel
theorem dX8_roundOff_92 : decode cX8_roundOff 92 = .ok (.istore 7, 2) := by decide +kernel
theorem dX8_roundOff_94 : decode cX8_roundOff 94 = .ok (.aload_n 0, 1) := by decide +kernel
theorem dX8_roundOff_95 : decode cX8_roundOff 95 = .ok (.getfield 9, 3) := by decide +kernel
theorem dX8_roundOff_98 : decode cX8_roundOff 98 = .ok (.iload 6, 2) := by decide +kernel
theorem dX8_roundOff_100 : decode cX8_roundOff 100 = .ok (.iconst 0, 1) := by decide +kernel
theorem dX8_roundOff_101 : decode cX8_roundOff 101 = .ok (.iastore, 1) := by decide +kernel
theorem dX8_roundOff_102 : decode cX8_roundOff 102 = .ok (.iload 7, 2) := by decide +kernel
theorem dX8_roundOff_104 : decode cX8_roundOff 104 = .ok (.iload 5, 2) := by decide +kernel
theorem dX8_roundOff_106 : decode cX8_roundOff 106 = .ok (.if_icmp .lt 6, 3) := by decide +kernel
theorem dX8_roundOff_109 : decode cX8_roundOff 109 = .ok (.goto 11, 3) := by decide +kernel
theorem dX8_roundOff_112 : decode cX8_roundOff 112 = .ok (.iload 6, 2) := by decide +kernel
theorem dX8_roundOff_114 : decode cX8_roundOff 114 = .ok (.istore 4, 2) := by decide +kernel
theorem dX8_roundOff_116 : decode cX8_roundOff 116 = .ok (.iload 7, 2) := by decide +kernel
theorem dX8_roundOff_118 : decode cX8_roundOff 118 = .ok (.istore 5, 2) := by decide +kernel
theorem dX8_roundOff_120 : decode cX8_roundOff 120 = .ok (.iinc 6 1, 3) := by decide +kernel
theorem dX8_roundOff_123 : decode cX8_roundOff 123 = .ok (.goto (-71), 3) := by decide +kernel
theorem dX8_roundOff_126 : decode cX8_roundOff 126 = .ok (.iload 4, 2) := by decide +kernel
theorem dX8_roundOff_128 : decode cX8_roundOff 128 = .ok (.ireturn, 1) := by decide +kernel
set_option maxRecDepth 20000 in
theorem ggX8_heardMany_X8_isHeard : GoodIn wsX8_heardMany wsX8_isHeard := goodIn_r _ [5, 6, 7, 8, 4, 9, 10, 11, 12, 13, 14, 15, 16, 17, 18, 19, 20, 21, 22, 23, 24, 25, 26, 27, 28, 29, 30, 31, 32, 33, 34, 35, 36, 37, 38] (by decide +kernel) (by decide +kernel)
set_option maxRecDepth 20000 in
theorem gX8_heardMany_X8_isHeard : GoodIn wsX8_heardMany (wsV RX8 172 RX8 yX8_isHeard wsX8_isHeard) := goodIn_app (goodIn_of _ (by decide +kernel)) ggX8_heardMany_X8_isHeard
theorem dX8_heardMany_0 : decode cX8_heardMany 0 = .ok (.iconst 0, 1) := by decide +kernel
theorem dX8_heardMany_1 : decode cX8_heardMany 1 = .ok (.istore_n 1, 1) := by decide +kernel
theorem dX8_heardMany_2 : decode cX8_heardMany 2 = .ok (.iconst 0, 1) := by decide +kernel
theorem dX8_heardMany_3 : decode cX8_heardMany 3 = .ok (.istore_n 2, 1) := by decide +kernel
theorem dX8_heardMany_4 : decode cX8_heardMany 4 = .ok (.iload_n 2, 1) := by decide +kernel
theorem dX8_heardMany_5 : decode cX8_heardMany 5 = .ok (.bipush 36, 2) := by decide +kernel
theorem dX8_heardMany_7 : decode cX8_heardMany 7 = .ok (.if_icmp .ge 25, 3) := by decide +kernel
theorem dX8_heardMany_10 : decode cX8_heardMany 10 = .ok (.iload_n 1, 1) := by decide +kernel
theorem dX8_heardMany_11 : decode cX8_heardMany 11 = .ok (.aload_n 0, 1) := by decide +kernel
theorem dX8_heardMany_12 : decode cX8_heardMany 12 = .ok (.iload_n 2, 1) := by decide +kernel
theorem dX8_heardMany_13 : decode cX8_heardMany 13 = .ok (.invokevirtual 172, 3) := by decide +kernel
theorem dX8_heardMany_16 : decode cX8_heardMany 16 = .ok (.ifCond .eq 7, 3) := by decide +kernel
theorem dX8_heardMany_19 : decode cX8_heardMany 19 = .ok (.iconst 1, 1) := by decide +kernel
theorem dX8_heardMany_20 : decode cX8_heardMany 20 = .ok (.goto 4, 3) := by decide +kernel
theorem dX8_heardMany_23 : decode cX8_heardMany 23 = .ok (.iconst 0, 1) := by decide +kernel
theorem dX8_heardMany_24 : decode cX8_heardMany 24 = .ok (.iadd, 1) := by decide +kernel
theorem dX8_heardMany_25 : decode cX8_heardMany 25 = .ok (.istore_n 1, 1) := by decide +kernel
theorem dX8_heardMany_26 : decode cX8_heardMany 26 = .ok (.iinc 2 1, 3) := by decide +kernel
theorem dX8_heardMany_29 : decode cX8_heardMany 29 = .ok (.goto (-25), 3) := by decide +kernel
theorem dX8_heardMany_32 : decode cX8_heardMany 32 = .ok (.iload_n 1, 1) := by decide +kernel
theorem dX8_heardMany_33 : decode cX8_heardMany 33 = .ok (.ireturn, 1) := by decide +kernel
set_option maxRecDepth 20000 in
theorem ggX8_newNiche_X8_isIn : GoodIn wsX8_newNiche wsX8_isIn := goodIn_r _ [5] (by decide +kernel) (by decide +kernel)
set_option maxRecDepth 20000 in
theorem gX8_newNiche_X8_isIn : GoodIn wsX8_newNiche (va_wsS RX8 53 yX8_isIn wsX8_isIn) := goodIn_app (goodIn_of _ (by decide +kernel)) ggX8_newNiche_X8_isIn
set_option maxRecDepth 20000 in
theorem ggX8_newNiche_X8_no : GoodIn wsX8_newNiche wsX8_no := goodIn_r _ [9, 10, 35, 36, 37, 38, 39, 40, 41, 42, 43, 44, 45, 46, 47, 48, 49, 50, 51, 52, 53] (by decide +kernel) (by decide +kernel)
set_option maxRecDepth 20000 in
theorem gX8_newNiche_X8_no : GoodIn wsX8_newNiche (wsV RX8 87 RX8 yX8_no wsX8_no) := goodIn_app (goodIn_of _ (by decide +kernel)) ggX8_newNiche_X8_no
set_option maxRecDepth 20000 in
theorem ggX8_newNiche_X8_canBe : GoodIn wsX8_newNiche wsX8_canBe := goodIn_r _ [14, 1, 15, 16, 4, 17, 35, 36, 37, 38, 39, 40, 41, 42, 43, 44, 45, 46, 47, 48, 49, 50, 51, 52, 53] (by decide +kernel) (by decide +kernel)
set_option maxRecDepth 20000 in
theorem gX8_newNiche_X8_canBe : GoodIn wsX8_newNiche (wsV RX8 75 RX8 yX8_canBe wsX8_canBe) := goodIn_app (goodIn_of _ (by decide +kernel)) ggX8_newNiche_X8_canBe
set_option maxRecDepth 20000 in
theorem ggX8_newNiche_X8_apart : GoodIn wsX8_newNiche wsX8_apart := goodIn_r _ [20, 21, 22, 4, 23] (by decide +kernel) (by decide +kernel)
set_option maxRecDepth 20000 in
theorem gX8_newNiche_X8_apart : GoodIn wsX8_newNiche (va_wsS RX8 68 yX8_apart wsX8_apart) := goodIn_app (goodIn_of _ (by decide +kernel)) ggX8_newNiche_X8_apart
set_option maxRecDepth 20000 in
theorem ggX8_newNiche_X8_isHeard : GoodIn wsX8_newNiche wsX8_isHeard := goodIn_r _ [27, 28, 29, 30, 4, 31, 1, 32, 33, 34, 18, 19, 20, 21, 22, 23, 35, 36, 37, 38, 39, 40, 41, 42, 43, 44, 45, 46, 47, 48, 49, 50, 51, 52, 53] (by decide +kernel) (by decide +kernel)
set_option maxRecDepth 20000 in
theorem gX8_newNiche_X8_isHeard : GoodIn wsX8_newNiche (wsV RX8 172 RX8 yX8_isHeard wsX8_isHeard) := goodIn_app (goodIn_of _ (by decide +kernel)) ggX8_newNiche_X8_isHeard
theorem dX8_newNiche_0 : decode cX8_newNiche 0 = .ok (.iload_n 1, 1) := by decide +kernel
theorem dX8_newNiche_1 : decode cX8_newNiche 1 = .ok (.iconst 0, 1) := by decide +kernel
theorem dX8_newNiche_2 : decode cX8_newNiche 2 = .ok (.iconst 1, 1) := by decide +kernel
theorem dX8_newNiche_3 : decode cX8_newNiche 3 = .ok (.invokestatic 53, 3) := by decide +kernel
theorem dX8_newNiche_6 : decode cX8_newNiche 6 = .ok (.ifCond .ne 10, 3) := by decide +kernel
theorem dX8_newNiche_9 : decode cX8_newNiche 9 = .ok (.aload_n 0, 1) := by decide +kernel
theorem dX8_newNiche_10 : decode cX8_newNiche 10 = .ok (.bipush (-2), 2) := by decide +kernel
theorem dX8_newNiche_12 : decode cX8_newNiche 12 = .ok (.invokevirtual 87, 3) := by decide +kernel
theorem dX8_newNiche_15 : decode cX8_newNiche 15 = .ok (.ireturn, 1) := by decide +kernel
theorem dX8_newNiche_16 : decode cX8_newNiche 16 = .ok (.bipush (-9), 2) := by decide +kernel
theorem dX8_newNiche_18 : decode cX8_newNiche 18 = .ok (.istore_n 2, 1) := by decide +kernel
theorem dX8_newNiche_19 : decode cX8_newNiche 19 = .ok (.iconst 0, 1) := by decide +kernel
theorem dX8_newNiche_20 : decode cX8_newNiche 20 = .ok (.istore_n 3, 1) := by decide +kernel
theorem dX8_newNiche_21 : decode cX8_newNiche 21 = .ok (.iconst 0, 1) := by decide +kernel
theorem dX8_newNiche_22 : decode cX8_newNiche 22 = .ok (.istore 4, 2) := by decide +kernel
theorem dX8_newNiche_24 : decode cX8_newNiche 24 = .ok (.iload 4, 2) := by decide +kernel
theorem dX8_newNiche_26 : decode cX8_newNiche 26 = .ok (.bipush 36, 2) := by decide +kernel
theorem dX8_newNiche_28 : decode cX8_newNiche 28 = .ok (.if_icmp .ge 97, 3) := by decide +kernel
theorem dX8_newNiche_31 : decode cX8_newNiche 31 = .ok (.iload 4, 2) := by decide +kernel
theorem dX8_newNiche_33 : decode cX8_newNiche 33 = .ok (.aload_n 0, 1) := by decide +kernel
theorem dX8_newNiche_34 : decode cX8_newNiche 34 = .ok (.getfield 9, 3) := by decide +kernel
theorem dX8_newNiche_37 : decode cX8_newNiche 37 = .ok (.bipush 36, 2) := by decide +kernel
theorem dX8_newNiche_39 : decode cX8_newNiche 39 = .ok (.iaload, 1) := by decide +kernel
theorem dX8_newNiche_40 : decode cX8_newNiche 40 = .ok (.if_icmp .eq 79, 3) := by decide +kernel
theorem dX8_newNiche_43 : decode cX8_newNiche 43 = .ok (.aload_n 0, 1) := by decide +kernel
theorem dX8_newNiche_44 : decode cX8_newNiche 44 = .ok (.iload 4, 2) := by decide +kernel
theorem dX8_newNiche_46 : decode cX8_newNiche 46 = .ok (.invokevirtual 75, 3) := by decide +kernel
theorem dX8_newNiche_49 : decode cX8_newNiche 49 = .ok (.ifCond .ne 6, 3) := by decide +kernel
theorem dX8_newNiche_52 : decode cX8_newNiche 52 = .ok (.goto 67, 3) := by decide +kernel
theorem dX8_newNiche_55 : decode cX8_newNiche 55 = .ok (.iconst 0, 1) := by decide +kernel
theorem dX8_newNiche_56 : decode cX8_newNiche 56 = .ok (.istore 5, 2) := by decide +kernel
theorem dX8_newNiche_58 : decode cX8_newNiche 58 = .ok (.iconst 0, 1) := by decide +kernel
theorem dX8_newNiche_59 : decode cX8_newNiche 59 = .ok (.istore 6, 2) := by decide +kernel
theorem dX8_newNiche_61 : decode cX8_newNiche 61 = .ok (.iload 6, 2) := by decide +kernel
theorem dX8_newNiche_63 : decode cX8_newNiche 63 = .ok (.bipush 36, 2) := by decide +kernel
theorem dX8_newNiche_65 : decode cX8_newNiche 65 = .ok (.if_icmp .ge 39, 3) := by decide +kernel
theorem dX8_newNiche_68 : decode cX8_newNiche 68 = .ok (.iload 5, 2) := by decide +kernel
theorem dX8_newNiche_70 : decode cX8_newNiche 70 = .ok (.iload 4, 2) := by decide +kernel
theorem dX8_newNiche_72 : decode cX8_newNiche 72 = .ok (.iload 6, 2) := by decide +kernel
theorem dX8_newNiche_74 : decode cX8_newNiche 74 = .ok (.invokestatic 68, 3) := by decide +kernel
theorem dX8_newNiche_77 : decode cX8_newNiche 77 = .ok (.iconst 1, 1) := by decide +kernel
theorem dX8_newNiche_78 : decode cX8_newNiche 78 = .ok (.if_icmp .gt 16, 3) := by decide +kernel
theorem dX8_newNiche_81 : decode cX8_newNiche 81 = .ok (.aload_n 0, 1) := by decide +kernel
theorem dX8_newNiche_82 : decode cX8_newNiche 82 = .ok (.iload 6, 2) := by decide +kernel
theorem dX8_newNiche_84 : decode cX8_newNiche 84 = .ok (.invokevirtual 172, 3) := by decide +kernel
theorem dX8_newNiche_87 : decode cX8_newNiche 87 = .ok (.ifCond .ne 7, 3) := by decide +kernel
theorem dX8_newNiche_90 : decode cX8_newNiche 90 = .ok (.iconst 1, 1) := by decide +kernel
theorem dX8_newNiche_91 : decode cX8_newNiche 91 = .ok (.goto 4, 3) := by decide +kernel
theorem dX8_newNiche_94 : decode cX8_newNiche 94 = .ok (.iconst 0, 1) := by decide +kernel
theorem dX8_newNiche_95 : decode cX8_newNiche 95 = .ok (.iadd, 1) := by decide +kernel
theorem dX8_newNiche_96 : decode cX8_newNiche 96 = .ok (.istore 5, 2) := by decide +kernel
theorem dX8_newNiche_98 : decode cX8_newNiche 98 = .ok (.iinc 6 1, 3) := by decide +kernel
theorem dX8_newNiche_101 : decode cX8_newNiche 101 = .ok (.goto (-40), 3) := by decide +kernel
theorem dX8_newNiche_104 : decode cX8_newNiche 104 = .ok (.iload 5, 2) := by decide +kernel
theorem dX8_newNiche_106 : decode cX8_newNiche 106 = .ok (.iload_n 3, 1) := by decide +kernel
theorem dX8_newNiche_107 : decode cX8_newNiche 107 = .ok (.if_icmp .gt 6, 3) := by decide +kernel
theorem dX8_newNiche_110 : decode cX8_newNiche 110 = .ok (.goto 9, 3) := by decide +kernel
theorem dX8_newNiche_113 : decode cX8_newNiche 113 = .ok (.iload 4, 2) := by decide +kernel
theorem dX8_newNiche_115 : decode cX8_newNiche 115 = .ok (.istore_n 2, 1) := by decide +kernel
theorem dX8_newNiche_116 : decode cX8_newNiche 116 = .ok (.iload 5, 2) := by decide +kernel
theorem dX8_newNiche_118 : decode cX8_newNiche 118 = .ok (.istore_n 3, 1) := by decide +kernel
theorem dX8_newNiche_119 : decode cX8_newNiche 119 = .ok (.iinc 4 1, 3) := by decide +kernel
theorem dX8_newNiche_122 : decode cX8_newNiche 122 = .ok (.goto (-98), 3) := by decide +kernel
theorem dX8_newNiche_125 : decode cX8_newNiche 125 = .ok (.iload_n 1, 1) := by decide +kernel
theorem dX8_newNiche_126 : decode cX8_newNiche 126 = .ok (.ifCond .eq 7, 3) := by decide +kernel
theorem dX8_newNiche_129 : decode cX8_newNiche 129 = .ok (.iload_n 2, 1) := by decide +kernel
theorem dX8_newNiche_130 : decode cX8_newNiche 130 = .ok (.ifCond .ge 7, 3) := by decide +kernel
theorem dX8_newNiche_133 : decode cX8_newNiche 133 = .ok (.iload_n 2, 1) := by decide +kernel
theorem dX8_newNiche_134 : decode cX8_newNiche 134 = .ok (.goto 4, 3) := by decide +kernel
theorem dX8_newNiche_137 : decode cX8_newNiche 137 = .ok (.iload_n 3, 1) := by decide +kernel
theorem dX8_newNiche_138 : decode cX8_newNiche 138 = .ok (.ireturn, 1) := by decide +kernel
set_option maxRecDepth 20000 in
theorem ggX8_enough_X8_hears : GoodIn wsX8_enough wsX8_hears := goodIn_r _ [5] (by decide +kernel) (by decide +kernel)
set_option maxRecDepth 20000 in
theorem gX8_enough_X8_hears : GoodIn wsX8_enough (va_wsS RX8 65 yX8_hears wsX8_hears) := goodIn_app (goodIn_of _ (by decide +kernel)) ggX8_enough_X8_hears
set_option maxRecDepth 20000 in
theorem ggX8_enough_X8_no : GoodIn wsX8_enough wsX8_no := goodIn_r _ [9, 10, 32, 33, 34, 35, 36, 37, 38, 39, 40, 41, 42, 43, 44, 45, 46, 47, 48, 49, 50] (by decide +kernel) (by decide +kernel)
set_option maxRecDepth 20000 in
theorem gX8_enough_X8_no : GoodIn wsX8_enough (wsV RX8 87 RX8 yX8_no wsX8_no) := goodIn_app (goodIn_of _ (by decide +kernel)) ggX8_enough_X8_no
set_option maxRecDepth 20000 in
theorem ggX8_enough_X8_bits : GoodIn wsX8_enough wsX8_bits := goodIn_r _ [13] (by decide +kernel) (by decide +kernel)
set_option maxRecDepth 20000 in
theorem gX8_enough_X8_bits : GoodIn wsX8_enough (va_wsS RX8 183 yX8_bits wsX8_bits) := goodIn_app (goodIn_of _ (by decide +kernel)) ggX8_enough_X8_bits
set_option maxRecDepth 20000 in
theorem ggX8_enough_X8_areAllHeard : GoodIn wsX8_enough wsX8_areAllHeard := goodIn_r _ [17, 1, 18, 19, 20, 4, 21, 22, 23, 24, 25, 2, 3, 5, 26, 27, 28, 29, 30, 31, 32, 33, 34, 35, 36, 37, 38, 39, 40, 41, 42, 43, 44, 45, 46, 47, 48, 49, 50] (by decide +kernel) (by decide +kernel)
set_option maxRecDepth 20000 in
theorem gX8_enough_X8_areAllHeard : GoodIn wsX8_enough (wsV RX8 186 RX8 yX8_areAllHeard wsX8_areAllHeard) := goodIn_app (goodIn_of _ (by decide +kernel)) ggX8_enough_X8_areAllHeard
theorem dX8_enough_0 : decode cX8_enough 0 = .ok (.iconst 0, 1) := by decide +kernel
theorem dX8_enough_1 : decode cX8_enough 1 = .ok (.istore_n 1, 1) := by decide +kernel
theorem dX8_enough_2 : decode cX8_enough 2 = .ok (.iconst 0, 1) := by decide +kernel
theorem dX8_enough_3 : decode cX8_enough 3 = .ok (.istore_n 2, 1) := by decide +kernel
theorem dX8_enough_4 : decode cX8_enough 4 = .ok (.iload_n 2, 1) := by decide +kernel
theorem dX8_enough_5 : decode cX8_enough 5 = .ok (.bipush 36, 2) := by decide +kernel
theorem dX8_enough_7 : decode cX8_enough 7 = .ok (.if_icmp .ge 29, 3) := by decide +kernel
theorem dX8_enough_10 : decode cX8_enough 10 = .ok (.iload_n 1, 1) := by decide +kernel
theorem dX8_enough_11 : decode cX8_enough 11 = .ok (.aload_n 0, 1) := by decide +kernel
theorem dX8_enough_12 : decode cX8_enough 12 = .ok (.getfield 9, 3) := by decide +kernel
theorem dX8_enough_15 : decode cX8_enough 15 = .ok (.iload_n 2, 1) := by decide +kernel
theorem dX8_enough_16 : decode cX8_enough 16 = .ok (.iaload, 1) := by decide +kernel
theorem dX8_enough_17 : decode cX8_enough 17 = .ok (.invokestatic 65, 3) := by decide +kernel
theorem dX8_enough_20 : decode cX8_enough 20 = .ok (.ifCond .lt 7, 3) := by decide +kernel
theorem dX8_enough_23 : decode cX8_enough 23 = .ok (.iconst 1, 1) := by decide +kernel
theorem dX8_enough_24 : decode cX8_enough 24 = .ok (.goto 4, 3) := by decide +kernel
theorem dX8_enough_27 : decode cX8_enough 27 = .ok (.iconst 0, 1) := by decide +kernel
theorem dX8_enough_28 : decode cX8_enough 28 = .ok (.iadd, 1) := by decide +kernel
theorem dX8_enough_29 : decode cX8_enough 29 = .ok (.istore_n 1, 1) := by decide +kernel
theorem dX8_enough_30 : decode cX8_enough 30 = .ok (.iinc 2 1, 3) := by decide +kernel
theorem dX8_enough_33 : decode cX8_enough 33 = .ok (.goto (-29), 3) := by decide +kernel
theorem dX8_enough_36 : decode cX8_enough 36 = .ok (.iload_n 1, 1) := by decide +kernel
theorem dX8_enough_37 : decode cX8_enough 37 = .ok (.bipush 8, 2) := by decide +kernel
theorem dX8_enough_39 : decode cX8_enough 39 = .ok (.if_icmp .le 10, 3) := by decide +kernel
theorem dX8_enough_42 : decode cX8_enough 42 = .ok (.aload_n 0, 1) := by decide +kernel
theorem dX8_enough_43 : decode cX8_enough 43 = .ok (.bipush (-3), 2) := by decide +kernel
theorem dX8_enough_45 : decode cX8_enough 45 = .ok (.invokevirtual 87, 3) := by decide +kernel
theorem dX8_enough_48 : decode cX8_enough 48 = .ok (.ireturn, 1) := by decide +kernel
theorem dX8_enough_49 : decode cX8_enough 49 = .ok (.iconst 1, 1) := by decide +kernel
theorem dX8_enough_50 : decode cX8_enough 50 = .ok (.iload_n 1, 1) := by decide +kernel
theorem dX8_enough_51 : decode cX8_enough 51 = .ok (.ishl, 1) := by decide +kernel
theorem dX8_enough_52 : decode cX8_enough 52 = .ok (.iconst 1, 1) := by decide +kernel
theorem dX8_enough_53 : decode cX8_enough 53 = .ok (.isub, 1) := by decide +kernel
theorem dX8_enough_54 : decode cX8_enough 54 = .ok (.istore_n 2, 1) := by decide +kernel
theorem dX8_enough_55 : decode cX8_enough 55 = .ok (.iload_n 2, 1) := by decide +kernel
theorem dX8_enough_56 : decode cX8_enough 56 = .ok (.istore_n 3, 1) := by decide +kernel
theorem dX8_enough_57 : decode cX8_enough 57 = .ok (.iload_n 3, 1) := by decide +kernel
theorem dX8_enough_58 : decode cX8_enough 58 = .ok (.ifCond .lt 30, 3) := by decide +kernel
theorem dX8_enough_61 : decode cX8_enough 61 = .ok (.iload_n 3, 1) := by decide +kernel
theorem dX8_enough_62 : decode cX8_enough 62 = .ok (.invokestatic 183, 3) := by decide +kernel
theorem dX8_enough_65 : decode cX8_enough 65 = .ok (.iload_n 2, 1) := by decide +kernel
theorem dX8_enough_66 : decode cX8_enough 66 = .ok (.invokestatic 183, 3) := by decide +kernel
theorem dX8_enough_69 : decode cX8_enough 69 = .ok (.if_icmp .gt 13, 3) := by decide +kernel
theorem dX8_enough_72 : decode cX8_enough 72 = .ok (.aload_n 0, 1) := by decide +kernel
theorem dX8_enough_73 : decode cX8_enough 73 = .ok (.iload_n 3, 1) := by decide +kernel
theorem dX8_enough_74 : decode cX8_enough 74 = .ok (.invokevirtual 186, 3) := by decide +kernel
theorem dX8_enough_77 : decode cX8_enough 77 = .ok (.ifCond .eq 5, 3) := by decide +kernel
theorem dX8_enough_80 : decode cX8_enough 80 = .ok (.iload_n 3, 1) := by decide +kernel
theorem dX8_enough_81 : decode cX8_enough 81 = .ok (.istore_n 2, 1) := by decide +kernel
theorem dX8_enough_82 : decode cX8_enough 82 = .ok (.iinc 3 (-1), 3) := by decide +kernel
theorem dX8_enough_85 : decode cX8_enough 85 = .ok (.goto (-28), 3) := by decide +kernel
theorem dX8_enough_88 : decode cX8_enough 88 = .ok (.iload_n 2, 1) := by decide +kernel
theorem dX8_enough_89 : decode cX8_enough 89 = .ok (.ireturn, 1) := by decide +kernel
theorem dX8_bits_0 : decode cX8_bits 0 = .ok (.iconst 0, 1) := by decide +kernel
theorem dX8_bits_1 : decode cX8_bits 1 = .ok (.istore_n 1, 1) := by decide +kernel
theorem dX8_bits_2 : decode cX8_bits 2 = .ok (.iconst 0, 1) := by decide +kernel
theorem dX8_bits_3 : decode cX8_bits 3 = .ok (.istore_n 2, 1) := by decide +kernel
theorem dX8_bits_4 : decode cX8_bits 4 = .ok (.iload_n 2, 1) := by decide +kernel
theorem dX8_bits_5 : decode cX8_bits 5 = .ok (.bipush 8, 2) := by decide +kernel
theorem dX8_bits_7 : decode cX8_bits 7 = .ok (.if_icmp .ge 17, 3) := by decide +kernel
theorem dX8_bits_10 : decode cX8_bits 10 = .ok (.iload_n 1, 1) := by decide +kernel
theorem dX8_bits_11 : decode cX8_bits 11 = .ok (.iload_n 0, 1) := by decide +kernel
theorem dX8_bits_12 : decode cX8_bits 12 = .ok (.iload_n 2, 1) := by decide +kernel
theorem dX8_bits_13 : decode cX8_bits 13 = .ok (.ishr, 1) := by decide +kernel
theorem dX8_bits_14 : decode cX8_bits 14 = .ok (.iconst 1, 1) := by decide +kernel
theorem dX8_bits_15 : decode cX8_bits 15 = .ok (.iand, 1) := by decide +kernel
theorem dX8_bits_16 : decode cX8_bits 16 = .ok (.iadd, 1) := by decide +kernel
theorem dX8_bits_17 : decode cX8_bits 17 = .ok (.istore_n 1, 1) := by decide +kernel
theorem dX8_bits_18 : decode cX8_bits 18 = .ok (.iinc 2 1, 3) := by decide +kernel
theorem dX8_bits_21 : decode cX8_bits 21 = .ok (.goto (-17), 3) := by decide +kernel
theorem dX8_bits_24 : decode cX8_bits 24 = .ok (.iload_n 1, 1) := by decide +kernel
theorem dX8_bits_25 : decode cX8_bits 25 = .ok (.ireturn, 1) := by decide +kernel
set_option maxRecDepth 20000 in
theorem ggX8_areAllHeard_X8_isHeard : GoodIn wsX8_areAllHeard wsX8_isHeard := goodIn_r _ [6, 7, 8, 9, 5, 10, 1, 11, 12, 13, 14, 15, 16, 17, 18, 19, 20, 21, 22, 23, 24, 25, 26, 27, 28, 29, 30, 31, 32, 33, 34, 35, 36, 37, 38] (by decide +kernel) (by decide +kernel)
set_option maxRecDepth 20000 in
theorem gX8_areAllHeard_X8_isHeard : GoodIn wsX8_areAllHeard (wsV RX8 172 RX8 yX8_isHeard wsX8_isHeard) := goodIn_app (goodIn_of _ (by decide +kernel)) ggX8_areAllHeard_X8_isHeard
set_option maxRecDepth 20000 in
theorem ggX8_areAllHeard_X8_hears : GoodIn wsX8_areAllHeard wsX8_hears := goodIn_r _ [13] (by decide +kernel) (by decide +kernel)
set_option maxRecDepth 20000 in
theorem gX8_areAllHeard_X8_hears : GoodIn wsX8_areAllHeard (va_wsS RX8 65 yX8_hears wsX8_hears) := goodIn_app (goodIn_of _ (by decide +kernel)) ggX8_areAllHeard_X8_hears
set_option maxRecDepth 20000 in
theorem ggX8_areAllHeard_X8_apart : GoodIn wsX8_areAllHeard wsX8_apart := goodIn_r _ [16, 17, 18, 5, 19] (by decide +kernel) (by decide +kernel)
set_option maxRecDepth 20000 in
theorem gX8_areAllHeard_X8_apart : GoodIn wsX8_areAllHeard (va_wsS RX8 68 yX8_apart wsX8_apart) := goodIn_app (goodIn_of _ (by decide +kernel)) ggX8_areAllHeard_X8_apart
theorem dX8_areAllHeard_0 : decode cX8_areAllHeard 0 = .ok (.iconst 0, 1) := by decide +kernel
theorem dX8_areAllHeard_1 : decode cX8_areAllHeard 1 = .ok (.istore_n 2, 1) := by decide +kernel
theorem dX8_areAllHeard_2 : decode cX8_areAllHeard 2 = .ok (.iload_n 2, 1) := by decide +kernel
theorem dX8_areAllHeard_3 : decode cX8_areAllHeard 3 = .ok (.bipush 36, 2) := by decide +kernel
theorem dX8_areAllHeard_5 : decode cX8_areAllHeard 5 = .ok (.if_icmp .ge 104, 3) := by decide +kernel
theorem dX8_areAllHeard_8 : decode cX8_areAllHeard 8 = .ok (.aload_n 0, 1) := by decide +kernel
theorem dX8_areAllHeard_9 : decode cX8_areAllHeard 9 = .ok (.iload_n 2, 1) := by decide +kernel
theorem dX8_areAllHeard_10 : decode cX8_areAllHeard 10 = .ok (.invokevirtual 172, 3) := by decide +kernel
theorem dX8_areAllHeard_13 : decode cX8_areAllHeard 13 = .ok (.ifCond .ne 7, 3) := by decide +kernel
theorem dX8_areAllHeard_16 : decode cX8_areAllHeard 16 = .ok (.iconst 1, 1) := by decide +kernel
theorem dX8_areAllHeard_17 : decode cX8_areAllHeard 17 = .ok (.goto 4, 3) := by decide +kernel
theorem dX8_areAllHeard_20 : decode cX8_areAllHeard 20 = .ok (.iconst 0, 1) := by decide +kernel
theorem dX8_areAllHeard_21 : decode cX8_areAllHeard 21 = .ok (.istore_n 3, 1) := by decide +kernel
theorem dX8_areAllHeard_22 : decode cX8_areAllHeard 22 = .ok (.iconst 0, 1) := by decide +kernel
theorem dX8_areAllHeard_23 : decode cX8_areAllHeard 23 = .ok (.istore 4, 2) := by decide +kernel
theorem dX8_areAllHeard_25 : decode cX8_areAllHeard 25 = .ok (.iconst 0, 1) := by decide +kernel
theorem dX8_areAllHeard_26 : decode cX8_areAllHeard 26 = .ok (.istore 5, 2) := by decide +kernel
theorem dX8_areAllHeard_28 : decode cX8_areAllHeard 28 = .ok (.iload 5, 2) := by decide +kernel
theorem dX8_areAllHeard_30 : decode cX8_areAllHeard 30 = .ok (.bipush 36, 2) := by decide +kernel
theorem dX8_areAllHeard_32 : decode cX8_areAllHeard 32 = .ok (.if_icmp .ge 65, 3) := by decide +kernel
theorem dX8_areAllHeard_35 : decode cX8_areAllHeard 35 = .ok (.aload_n 0, 1) := by decide +kernel
theorem dX8_areAllHeard_36 : decode cX8_areAllHeard 36 = .ok (.getfield 9, 3) := by decide +kernel
theorem dX8_areAllHeard_39 : decode cX8_areAllHeard 39 = .ok (.iload 5, 2) := by decide +kernel
theorem dX8_areAllHeard_41 : decode cX8_areAllHeard 41 = .ok (.iaload, 1) := by decide +kernel
theorem dX8_areAllHeard_42 : decode cX8_areAllHeard 42 = .ok (.invokestatic 65, 3) := by decide +kernel
theorem dX8_areAllHeard_45 : decode cX8_areAllHeard 45 = .ok (.ifCond .ge 6, 3) := by decide +kernel
theorem dX8_areAllHeard_48 : decode cX8_areAllHeard 48 = .ok (.goto 43, 3) := by decide +kernel
theorem dX8_areAllHeard_51 : decode cX8_areAllHeard 51 = .ok (.iload_n 3, 1) := by decide +kernel
theorem dX8_areAllHeard_52 : decode cX8_areAllHeard 52 = .ok (.iload_n 1, 1) := by decide +kernel
theorem dX8_areAllHeard_53 : decode cX8_areAllHeard 53 = .ok (.iload 4, 2) := by decide +kernel
theorem dX8_areAllHeard_55 : decode cX8_areAllHeard 55 = .ok (.ishr, 1) := by decide +kernel
theorem dX8_areAllHeard_56 : decode cX8_areAllHeard 56 = .ok (.iconst 1, 1) := by decide +kernel
theorem dX8_areAllHeard_57 : decode cX8_areAllHeard 57 = .ok (.iand, 1) := by decide +kernel
theorem dX8_areAllHeard_58 : decode cX8_areAllHeard 58 = .ok (.iconst 1, 1) := by decide +kernel
theorem dX8_areAllHeard_59 : decode cX8_areAllHeard 59 = .ok (.if_icmp .ne 26, 3) := by decide +kernel
theorem dX8_areAllHeard_62 : decode cX8_areAllHeard 62 = .ok (.aload_n 0, 1) := by decide +kernel
theorem dX8_areAllHeard_63 : decode cX8_areAllHeard 63 = .ok (.getfield 9, 3) := by decide +kernel
theorem dX8_areAllHeard_66 : decode cX8_areAllHeard 66 = .ok (.iload 5, 2) := by decide +kernel
theorem dX8_areAllHeard_68 : decode cX8_areAllHeard 68 = .ok (.iaload, 1) := by decide +kernel
theorem dX8_areAllHeard_69 : decode cX8_areAllHeard 69 = .ok (.invokestatic 65, 3) := by decide +kernel
theorem dX8_areAllHeard_72 : decode cX8_areAllHeard 72 = .ok (.iload 5, 2) := by decide +kernel
theorem dX8_areAllHeard_74 : decode cX8_areAllHeard 74 = .ok (.iload_n 2, 1) := by decide +kernel
theorem dX8_areAllHeard_75 : decode cX8_areAllHeard 75 = .ok (.invokestatic 68, 3) := by decide +kernel
theorem dX8_areAllHeard_78 : decode cX8_areAllHeard 78 = .ok (.if_icmp .lt 7, 3) := by decide +kernel
theorem dX8_areAllHeard_81 : decode cX8_areAllHeard 81 = .ok (.iconst 1, 1) := by decide +kernel
theorem dX8_areAllHeard_82 : decode cX8_areAllHeard 82 = .ok (.goto 4, 3) := by decide +kernel
theorem dX8_areAllHeard_85 : decode cX8_areAllHeard 85 = .ok (.iconst 0, 1) := by decide +kernel
theorem dX8_areAllHeard_86 : decode cX8_areAllHeard 86 = .ok (.ior, 1) := by decide +kernel
theorem dX8_areAllHeard_87 : decode cX8_areAllHeard 87 = .ok (.istore_n 3, 1) := by decide +kernel
theorem dX8_areAllHeard_88 : decode cX8_areAllHeard 88 = .ok (.iinc 4 1, 3) := by decide +kernel
theorem dX8_areAllHeard_91 : decode cX8_areAllHeard 91 = .ok (.iinc 5 1, 3) := by decide +kernel
theorem dX8_areAllHeard_94 : decode cX8_areAllHeard 94 = .ok (.goto (-66), 3) := by decide +kernel
theorem dX8_areAllHeard_97 : decode cX8_areAllHeard 97 = .ok (.iload_n 3, 1) := by decide +kernel
theorem dX8_areAllHeard_98 : decode cX8_areAllHeard 98 = .ok (.ifCond .ne 5, 3) := by decide +kernel
theorem dX8_areAllHeard_101 : decode cX8_areAllHeard 101 = .ok (.iconst 0, 1) := by decide +kernel
theorem dX8_areAllHeard_102 : decode cX8_areAllHeard 102 = .ok (.ireturn, 1) := by decide +kernel
theorem dX8_areAllHeard_103 : decode cX8_areAllHeard 103 = .ok (.iinc 2 1, 3) := by decide +kernel
theorem dX8_areAllHeard_106 : decode cX8_areAllHeard 106 = .ok (.goto (-104), 3) := by decide +kernel
theorem dX8_areAllHeard_109 : decode cX8_areAllHeard 109 = .ok (.iconst 1, 1) := by decide +kernel
theorem dX8_areAllHeard_110 : decode cX8_areAllHeard 110 = .ok (.ireturn, 1) := by decide +kernel
set_option maxRecDepth 20000 in
theorem ggX8_quiet_X8_canBe : GoodIn wsX8_quiet wsX8_canBe := goodIn_r _ [7, 8, 9, 10, 6, 11, 43, 44, 45, 46, 47, 48, 49, 50, 51, 52, 53, 54, 55, 56, 57, 58, 59, 60, 61] (by decide +kernel) (by decide +kernel)
set_option maxRecDepth 20000 in
theorem gX8_quiet_X8_canBe : GoodIn wsX8_quiet (wsV RX8 75 RX8 yX8_canBe wsX8_canBe) := goodIn_app (goodIn_of _ (by decide +kernel)) ggX8_quiet_X8_canBe
set_option maxRecDepth 20000 in
theorem ggX8_quiet_X8_stepsAll : GoodIn wsX8_quiet wsX8_stepsAll := goodIn_r _ [15, 2, 1, 3, 4, 5, 6, 7, 8, 9, 10, 11, 16, 17, 18, 19, 20, 21, 22, 23, 24, 25, 43, 44, 45, 46, 47, 48, 49, 50, 51, 52, 53, 54, 55, 56, 57, 58, 59, 60, 61] (by decide +kernel) (by decide +kernel)
set_option maxRecDepth 20000 in
theorem gX8_quiet_X8_stepsAll : GoodIn wsX8_quiet (wsV RX8 141 RX8 yX8_stepsAll wsX8_stepsAll) := goodIn_app (goodIn_of _ (by decide +kernel)) ggX8_quiet_X8_stepsAll
set_option maxRecDepth 20000 in
theorem ggX8_quiet_X8_isHeard : GoodIn wsX8_quiet wsX8_isHeard := goodIn_r _ [29, 30, 31, 32, 6, 33, 8, 34, 35, 36, 37, 38, 39, 40, 41, 42, 43, 44, 45, 46, 47, 48, 49, 50, 51, 52, 53, 54, 55, 56, 57, 58, 59, 60, 61] (by decide +kernel) (by decide +kernel)
set_option maxRecDepth 20000 in
theorem gX8_quiet_X8_isHeard : GoodIn wsX8_quiet (wsV RX8 172 RX8 yX8_isHeard wsX8_isHeard) := goodIn_app (goodIn_of _ (by decide +kernel)) ggX8_quiet_X8_isHeard
theorem dX8_quiet_0 : decode cX8_quiet 0 = .ok (.bipush (-9), 2) := by decide +kernel
theorem dX8_quiet_2 : decode cX8_quiet 2 = .ok (.istore_n 1, 1) := by decide +kernel
theorem dX8_quiet_3 : decode cX8_quiet 3 = .ok (.iconst (-1), 1) := by decide +kernel
theorem dX8_quiet_4 : decode cX8_quiet 4 = .ok (.istore_n 2, 1) := by decide +kernel
theorem dX8_quiet_5 : decode cX8_quiet 5 = .ok (.iconst 0, 1) := by decide +kernel
theorem dX8_quiet_6 : decode cX8_quiet 6 = .ok (.istore_n 3, 1) := by decide +kernel
theorem dX8_quiet_7 : decode cX8_quiet 7 = .ok (.iload_n 3, 1) := by decide +kernel
theorem dX8_quiet_8 : decode cX8_quiet 8 = .ok (.bipush 36, 2) := by decide +kernel
theorem dX8_quiet_10 : decode cX8_quiet 10 = .ok (.if_icmp .ge 96, 3) := by decide +kernel
theorem dX8_quiet_13 : decode cX8_quiet 13 = .ok (.aload_n 0, 1) := by decide +kernel
theorem dX8_quiet_14 : decode cX8_quiet 14 = .ok (.iload_n 3, 1) := by decide +kernel
theorem dX8_quiet_15 : decode cX8_quiet 15 = .ok (.invokevirtual 75, 3) := by decide +kernel
theorem dX8_quiet_18 : decode cX8_quiet 18 = .ok (.ifCond .ne 6, 3) := by decide +kernel
theorem dX8_quiet_21 : decode cX8_quiet 21 = .ok (.goto 79, 3) := by decide +kernel
theorem dX8_quiet_24 : decode cX8_quiet 24 = .ok (.aload_n 0, 1) := by decide +kernel
theorem dX8_quiet_25 : decode cX8_quiet 25 = .ok (.iload_n 3, 1) := by decide +kernel
theorem dX8_quiet_26 : decode cX8_quiet 26 = .ok (.invokevirtual 141, 3) := by decide +kernel
theorem dX8_quiet_29 : decode cX8_quiet 29 = .ok (.ldc 140, 2) := by decide +kernel
theorem dX8_quiet_31 : decode cX8_quiet 31 = .ok (.istore 4, 2) := by decide +kernel
theorem dX8_quiet_33 : decode cX8_quiet 33 = .ok (.iconst 0, 1) := by decide +kernel
theorem dX8_quiet_34 : decode cX8_quiet 34 = .ok (.istore 5, 2) := by decide +kernel
theorem dX8_quiet_36 : decode cX8_quiet 36 = .ok (.iload 5, 2) := by decide +kernel
theorem dX8_quiet_38 : decode cX8_quiet 38 = .ok (.bipush 36, 2) := by decide +kernel
theorem dX8_quiet_40 : decode cX8_quiet 40 = .ok (.if_icmp .ge 39, 3) := by decide +kernel
theorem dX8_quiet_43 : decode cX8_quiet 43 = .ok (.aload_n 0, 1) := by decide +kernel
theorem dX8_quiet_44 : decode cX8_quiet 44 = .ok (.getfield 34, 3) := by decide +kernel
theorem dX8_quiet_47 : decode cX8_quiet 47 = .ok (.iload 5, 2) := by decide +kernel
theorem dX8_quiet_49 : decode cX8_quiet 49 = .ok (.iaload, 1) := by decide +kernel
theorem dX8_quiet_50 : decode cX8_quiet 50 = .ok (.iload 4, 2) := by decide +kernel
theorem dX8_quiet_52 : decode cX8_quiet 52 = .ok (.if_icmp .ge 21, 3) := by decide +kernel
theorem dX8_quiet_55 : decode cX8_quiet 55 = .ok (.aload_n 0, 1) := by decide +kernel
theorem dX8_quiet_56 : decode cX8_quiet 56 = .ok (.iload 5, 2) := by decide +kernel
theorem dX8_quiet_58 : decode cX8_quiet 58 = .ok (.invokevirtual 172, 3) := by decide +kernel
theorem dX8_quiet_61 : decode cX8_quiet 61 = .ok (.ifCond .eq 12, 3) := by decide +kernel
theorem dX8_quiet_64 : decode cX8_quiet 64 = .ok (.aload_n 0, 1) := by decide +kernel
theorem dX8_quiet_65 : decode cX8_quiet 65 = .ok (.getfield 34, 3) := by decide +kernel
theorem dX8_quiet_68 : decode cX8_quiet 68 = .ok (.iload 5, 2) := by decide +kernel
theorem dX8_quiet_70 : decode cX8_quiet 70 = .ok (.iaload, 1) := by decide +kernel
theorem dX8_quiet_71 : decode cX8_quiet 71 = .ok (.istore 4, 2) := by decide +kernel
theorem dX8_quiet_73 : decode cX8_quiet 73 = .ok (.iinc 5 1, 3) := by decide +kernel
theorem dX8_quiet_76 : decode cX8_quiet 76 = .ok (.goto (-40), 3) := by decide +kernel
theorem dX8_quiet_79 : decode cX8_quiet 79 = .ok (.iload 4, 2) := by decide +kernel
theorem dX8_quiet_81 : decode cX8_quiet 81 = .ok (.ldc 140, 2) := by decide +kernel
theorem dX8_quiet_83 : decode cX8_quiet 83 = .ok (.if_icmp .ge 17, 3) := by decide +kernel
theorem dX8_quiet_86 : decode cX8_quiet 86 = .ok (.iload 4, 2) := by decide +kernel
theorem dX8_quiet_88 : decode cX8_quiet 88 = .ok (.iload_n 2, 1) := by decide +kernel
theorem dX8_quiet_89 : decode cX8_quiet 89 = .ok (.if_icmp .gt 6, 3) := by decide +kernel
theorem dX8_quiet_92 : decode cX8_quiet 92 = .ok (.goto 8, 3) := by decide +kernel
theorem dX8_quiet_95 : decode cX8_quiet 95 = .ok (.iload_n 3, 1) := by decide +kernel
theorem dX8_quiet_96 : decode cX8_quiet 96 = .ok (.istore_n 1, 1) := by decide +kernel
theorem dX8_quiet_97 : decode cX8_quiet 97 = .ok (.iload 4, 2) := by decide +kernel
theorem dX8_quiet_99 : decode cX8_quiet 99 = .ok (.istore_n 2, 1) := by decide +kernel
theorem dX8_quiet_100 : decode cX8_quiet 100 = .ok (.iinc 3 1, 3) := by decide +kernel
theorem dX8_quiet_103 : decode cX8_quiet 103 = .ok (.goto (-96), 3) := by decide +kernel
theorem dX8_quiet_106 : decode cX8_quiet 106 = .ok (.iload_n 1, 1) := by decide +kernel
theorem dX8_quiet_107 : decode cX8_quiet 107 = .ok (.ireturn, 1) := by decide +kernel
set_option maxRecDepth 20000 in
theorem ggX8_isYard_X8_gone : GoodIn wsX8_isYard wsX8_gone := goodIn_r _ [5, 6, 7, 4, 8, 9, 10, 11, 12, 13, 14, 15, 16, 17, 18, 19, 24, 25, 26, 27, 28, 29, 30, 31, 32, 33, 34, 35, 36, 37, 38, 39, 40, 41, 42] (by decide +kernel) (by decide +kernel)
set_option maxRecDepth 20000 in
theorem gX8_isYard_X8_gone : GoodIn wsX8_isYard (wsV RX8 128 RX8 yX8_gone wsX8_gone) := goodIn_app (goodIn_of _ (by decide +kernel)) ggX8_isYard_X8_gone
set_option maxRecDepth 20000 in
theorem ggX8_isYard_X8_isTurned : GoodIn wsX8_isYard wsX8_isTurned := goodIn_r _ [23, 16, 24, 25, 26, 27, 28, 29, 30, 31, 32, 33, 34, 35, 36, 37, 38, 39, 40, 41, 42] (by decide +kernel) (by decide +kernel)
set_option maxRecDepth 20000 in
theorem gX8_isYard_X8_isTurned : GoodIn wsX8_isYard (wsV RX8 78 RX8 yX8_isTurned wsX8_isTurned) := goodIn_app (goodIn_of _ (by decide +kernel)) ggX8_isYard_X8_isTurned
theorem dX8_isYard_0 : decode cX8_isYard 0 = .ok (.aload_n 0, 1) := by decide +kernel
theorem dX8_isYard_1 : decode cX8_isYard 1 = .ok (.iload_n 1, 1) := by decide +kernel
theorem dX8_isYard_2 : decode cX8_isYard 2 = .ok (.iconst 0, 1) := by decide +kernel
theorem dX8_isYard_3 : decode cX8_isYard 3 = .ok (.invokevirtual 128, 3) := by decide +kernel
theorem dX8_isYard_6 : decode cX8_isYard 6 = .ok (.ifCond .ge 12, 3) := by decide +kernel
theorem dX8_isYard_9 : decode cX8_isYard 9 = .ok (.aload_n 0, 1) := by decide +kernel
theorem dX8_isYard_10 : decode cX8_isYard 10 = .ok (.iload_n 1, 1) := by decide +kernel
theorem dX8_isYard_11 : decode cX8_isYard 11 = .ok (.iconst 3, 1) := by decide +kernel
theorem dX8_isYard_12 : decode cX8_isYard 12 = .ok (.invokevirtual 128, 3) := by decide +kernel
theorem dX8_isYard_15 : decode cX8_isYard 15 = .ok (.ifCond .lt 7, 3) := by decide +kernel
theorem dX8_isYard_18 : decode cX8_isYard 18 = .ok (.iconst 1, 1) := by decide +kernel
theorem dX8_isYard_19 : decode cX8_isYard 19 = .ok (.goto 4, 3) := by decide +kernel
theorem dX8_isYard_22 : decode cX8_isYard 22 = .ok (.iconst 0, 1) := by decide +kernel
theorem dX8_isYard_23 : decode cX8_isYard 23 = .ok (.istore_n 2, 1) := by decide +kernel
theorem dX8_isYard_24 : decode cX8_isYard 24 = .ok (.aload_n 0, 1) := by decide +kernel
theorem dX8_isYard_25 : decode cX8_isYard 25 = .ok (.iload_n 1, 1) := by decide +kernel
theorem dX8_isYard_26 : decode cX8_isYard 26 = .ok (.iconst 1, 1) := by decide +kernel
theorem dX8_isYard_27 : decode cX8_isYard 27 = .ok (.invokevirtual 128, 3) := by decide +kernel
theorem dX8_isYard_30 : decode cX8_isYard 30 = .ok (.ifCond .ge 12, 3) := by decide +kernel
theorem dX8_isYard_33 : decode cX8_isYard 33 = .ok (.aload_n 0, 1) := by decide +kernel
theorem dX8_isYard_34 : decode cX8_isYard 34 = .ok (.iload_n 1, 1) := by decide +kernel
theorem dX8_isYard_35 : decode cX8_isYard 35 = .ok (.iconst 2, 1) := by decide +kernel
theorem dX8_isYard_36 : decode cX8_isYard 36 = .ok (.invokevirtual 128, 3) := by decide +kernel
theorem dX8_isYard_39 : decode cX8_isYard 39 = .ok (.ifCond .lt 7, 3) := by decide +kernel
theorem dX8_isYard_42 : decode cX8_isYard 42 = .ok (.iconst 1, 1) := by decide +kernel
theorem dX8_isYard_43 : decode cX8_isYard 43 = .ok (.goto 4, 3) := by decide +kernel
theorem dX8_isYard_46 : decode cX8_isYard 46 = .ok (.iconst 0, 1) := by decide +kernel
theorem dX8_isYard_47 : decode cX8_isYard 47 = .ok (.istore_n 3, 1) := by decide +kernel
theorem dX8_isYard_48 : decode cX8_isYard 48 = .ok (.aload_n 0, 1) := by decide +kernel
theorem dX8_isYard_49 : decode cX8_isYard 49 = .ok (.iload_n 1, 1) := by decide +kernel
theorem dX8_isYard_50 : decode cX8_isYard 50 = .ok (.invokevirtual 78, 3) := by decide +kernel
theorem dX8_isYard_53 : decode cX8_isYard 53 = .ok (.ifCond .eq 15, 3) := by decide +kernel
theorem dX8_isYard_56 : decode cX8_isYard 56 = .ok (.iload_n 2, 1) := by decide +kernel
theorem dX8_isYard_57 : decode cX8_isYard 57 = .ok (.ifCond .eq 11, 3) := by decide +kernel
theorem dX8_isYard_60 : decode cX8_isYard 60 = .ok (.iload_n 3, 1) := by decide +kernel
theorem dX8_isYard_61 : decode cX8_isYard 61 = .ok (.ifCond .eq 7, 3) := by decide +kernel
theorem dX8_isYard_64 : decode cX8_isYard 64 = .ok (.iconst 1, 1) := by decide +kernel
theorem dX8_isYard_65 : decode cX8_isYard 65 = .ok (.goto 4, 3) := by decide +kernel
theorem dX8_isYard_68 : decode cX8_isYard 68 = .ok (.iconst 0, 1) := by decide +kernel
theorem dX8_isYard_69 : decode cX8_isYard 69 = .ok (.ireturn, 1) := by decide +kernel
set_option maxRecDepth 20000 in
theorem ggX8_yards_X8_isSquare : GoodIn wsX8_yards wsX8_isSquare := goodIn_r _ [6, 7, 8, 5, 9] (by decide +kernel) (by decide +kernel)
set_option maxRecDepth 20000 in
theorem gX8_yards_X8_isSquare : GoodIn wsX8_yards (va_wsS RX8 72 yX8_isSquare wsX8_isSquare) := goodIn_app (goodIn_of _ (by decide +kernel)) ggX8_yards_X8_isSquare
set_option maxRecDepth 20000 in
theorem ggX8_yards_X8_no : GoodIn wsX8_yards wsX8_no := goodIn_r _ [13, 14, 42, 43, 44, 45, 46, 47, 48, 49, 50, 51, 52, 53, 54, 55, 56, 57, 58, 59, 60] (by decide +kernel) (by decide +kernel)
set_option maxRecDepth 20000 in
theorem gX8_yards_X8_no : GoodIn wsX8_yards (wsV RX8 87 RX8 yX8_no wsX8_no) := goodIn_app (goodIn_of _ (by decide +kernel)) ggX8_yards_X8_no
set_option maxRecDepth 20000 in
theorem ggX8_yards_X8_stepsAll : GoodIn wsX8_yards wsX8_stepsAll := goodIn_r _ [18, 2, 1, 19, 20, 21, 5, 22, 23, 24, 25, 26, 27, 28, 29, 30, 3, 4, 6, 7, 8, 9, 42, 43, 44, 45, 46, 47, 48, 49, 50, 51, 52, 53, 54, 55, 56, 57, 58, 59, 60] (by decide +kernel) (by decide +kernel)
set_option maxRecDepth 20000 in
theorem gX8_yards_X8_stepsAll : GoodIn wsX8_yards (wsV RX8 141 RX8 yX8_stepsAll wsX8_stepsAll) := goodIn_app (goodIn_of _ (by decide +kernel)) ggX8_yards_X8_stepsAll
set_option maxRecDepth 20000 in
theorem ggX8_yards_X8_isYard : GoodIn wsX8_yards wsX8_isYard := goodIn_r _ [34, 27, 28, 29, 5, 30, 3, 4, 6, 7, 8, 9, 19, 20, 21, 22, 23, 24, 25, 26, 35, 36, 37, 38, 42, 43, 44, 45, 46, 47, 48, 49, 50, 51, 52, 53, 54, 55, 56, 57, 58, 59, 60] (by decide +kernel) (by decide +kernel)
set_option maxRecDepth 20000 in
theorem gX8_yards_X8_isYard : GoodIn wsX8_yards (wsV RX8 189 RX8 yX8_isYard wsX8_isYard) := goodIn_app (goodIn_of _ (by decide +kernel)) ggX8_yards_X8_isYard
set_option maxRecDepth 20000 in
theorem ggX8_yards_X8_orNone : GoodIn wsX8_yards wsX8_orNone := goodIn_r _ [41, 1] (by decide +kernel) (by decide +kernel)
set_option maxRecDepth 20000 in
theorem gX8_yards_X8_orNone : GoodIn wsX8_yards (va_wsS RX8 145 yX8_orNone wsX8_orNone) := goodIn_app (goodIn_of _ (by decide +kernel)) ggX8_yards_X8_orNone
theorem dX8_yards_0 : decode cX8_yards 0 = .ok (.iload_n 1, 1) := by decide +kernel
theorem dX8_yards_1 : decode cX8_yards 1 = .ok (.invokestatic 72, 3) := by decide +kernel
theorem dX8_yards_4 : decode cX8_yards 4 = .ok (.ifCond .ne 9, 3) := by decide +kernel
theorem dX8_yards_7 : decode cX8_yards 7 = .ok (.aload_n 0, 1) := by decide +kernel
theorem dX8_yards_8 : decode cX8_yards 8 = .ok (.iconst (-1), 1) := by decide +kernel
theorem dX8_yards_9 : decode cX8_yards 9 = .ok (.invokevirtual 87, 3) := by decide +kernel
theorem dX8_yards_12 : decode cX8_yards 12 = .ok (.ireturn, 1) := by decide +kernel
theorem dX8_yards_13 : decode cX8_yards 13 = .ok (.aload_n 0, 1) := by decide +kernel
theorem dX8_yards_14 : decode cX8_yards 14 = .ok (.iload_n 1, 1) := by decide +kernel
theorem dX8_yards_15 : decode cX8_yards 15 = .ok (.invokevirtual 141, 3) := by decide +kernel
theorem dX8_yards_18 : decode cX8_yards 18 = .ok (.ldc 140, 2) := by decide +kernel
theorem dX8_yards_20 : decode cX8_yards 20 = .ok (.istore_n 2, 1) := by decide +kernel
theorem dX8_yards_21 : decode cX8_yards 21 = .ok (.iconst 0, 1) := by decide +kernel
theorem dX8_yards_22 : decode cX8_yards 22 = .ok (.istore_n 3, 1) := by decide +kernel
theorem dX8_yards_23 : decode cX8_yards 23 = .ok (.iload_n 3, 1) := by decide +kernel
theorem dX8_yards_24 : decode cX8_yards 24 = .ok (.bipush 36, 2) := by decide +kernel
theorem dX8_yards_26 : decode cX8_yards 26 = .ok (.if_icmp .ge 34, 3) := by decide +kernel
theorem dX8_yards_29 : decode cX8_yards 29 = .ok (.aload_n 0, 1) := by decide +kernel
theorem dX8_yards_30 : decode cX8_yards 30 = .ok (.getfield 34, 3) := by decide +kernel
theorem dX8_yards_33 : decode cX8_yards 33 = .ok (.iload_n 3, 1) := by decide +kernel
theorem dX8_yards_34 : decode cX8_yards 34 = .ok (.iaload, 1) := by decide +kernel
theorem dX8_yards_35 : decode cX8_yards 35 = .ok (.iload_n 2, 1) := by decide +kernel
theorem dX8_yards_36 : decode cX8_yards 36 = .ok (.if_icmp .ge 18, 3) := by decide +kernel
theorem dX8_yards_39 : decode cX8_yards 39 = .ok (.aload_n 0, 1) := by decide +kernel
theorem dX8_yards_40 : decode cX8_yards 40 = .ok (.iload_n 3, 1) := by decide +kernel
theorem dX8_yards_41 : decode cX8_yards 41 = .ok (.invokevirtual 189, 3) := by decide +kernel
theorem dX8_yards_44 : decode cX8_yards 44 = .ok (.ifCond .eq 10, 3) := by decide +kernel
theorem dX8_yards_47 : decode cX8_yards 47 = .ok (.aload_n 0, 1) := by decide +kernel
theorem dX8_yards_48 : decode cX8_yards 48 = .ok (.getfield 34, 3) := by decide +kernel
theorem dX8_yards_51 : decode cX8_yards 51 = .ok (.iload_n 3, 1) := by decide +kernel
theorem dX8_yards_52 : decode cX8_yards 52 = .ok (.iaload, 1) := by decide +kernel
theorem dX8_yards_53 : decode cX8_yards 53 = .ok (.istore_n 2, 1) := by decide +kernel
theorem dX8_yards_54 : decode cX8_yards 54 = .ok (.iinc 3 1, 3) := by decide +kernel
theorem dX8_yards_57 : decode cX8_yards 57 = .ok (.goto (-34), 3) := by decide +kernel
theorem dX8_yards_60 : decode cX8_yards 60 = .ok (.iload_n 2, 1) := by decide +kernel
theorem dX8_yards_61 : decode cX8_yards 61 = .ok (.invokestatic 145, 3) := by decide +kernel
theorem dX8_yards_64 : decode cX8_yards 64 = .ok (.ireturn, 1) := by decide +kernel
set_option maxRecDepth 20000 in
theorem ggX8_canBeSaid_X8_wordsOn : GoodIn wsX8_canBeSaid wsX8_wordsOn := goodIn_r _ [8, 9, 42, 43, 44, 45, 46, 47, 48, 49, 50, 51, 52, 53, 54, 55, 56, 57, 58, 59, 60] (by decide +kernel) (by decide +kernel)
set_option maxRecDepth 20000 in
theorem gX8_canBeSaid_X8_wordsOn : GoodIn wsX8_canBeSaid (wsV RX8 84 RX8 yX8_wordsOn wsX8_wordsOn) := goodIn_app (goodIn_of _ (by decide +kernel)) ggX8_canBeSaid_X8_wordsOn
set_option maxRecDepth 20000 in
theorem ggX8_canBeSaid_X8_gone : GoodIn wsX8_canBeSaid wsX8_gone := goodIn_r _ [13, 14, 15, 7, 16, 17, 18, 19, 20, 21, 22, 23, 9, 24, 25, 26, 42, 43, 44, 45, 46, 47, 48, 49, 50, 51, 52, 53, 54, 55, 56, 57, 58, 59, 60] (by decide +kernel) (by decide +kernel)
set_option maxRecDepth 20000 in
theorem gX8_canBeSaid_X8_gone : GoodIn wsX8_canBeSaid (wsV RX8 128 RX8 yX8_gone wsX8_gone) := goodIn_app (goodIn_of _ (by decide +kernel)) ggX8_canBeSaid_X8_gone
set_option maxRecDepth 20000 in
theorem ggX8_canBeSaid_X8_saidOn : GoodIn wsX8_canBeSaid wsX8_saidOn := goodIn_r _ [30, 31, 32, 33, 7, 34, 35, 36, 37, 38, 9, 4, 5, 6, 8, 42, 43, 44, 45, 46, 47, 48, 49, 50, 51, 52, 53, 54, 55, 56, 57, 58, 59, 60] (by decide +kernel) (by decide +kernel)
set_option maxRecDepth 20000 in
theorem gX8_canBeSaid_X8_saidOn : GoodIn wsX8_canBeSaid (wsV RX8 148 RX8 yX8_saidOn wsX8_saidOn) := goodIn_app (goodIn_of _ (by decide +kernel)) ggX8_canBeSaid_X8_saidOn
set_option maxRecDepth 20000 in
theorem ggX8_canBeSaid_X8_at : GoodIn wsX8_canBeSaid wsX8_at := goodIn_r _ [41] (by decide +kernel) (by decide +kernel)
set_option maxRecDepth 20000 in
theorem gX8_canBeSaid_X8_at : GoodIn wsX8_canBeSaid (va_wsS RX8 152 yX8_at wsX8_at) := goodIn_app (goodIn_of _ (by decide +kernel)) ggX8_canBeSaid_X8_at
theorem dX8_canBeSaid_0 : decode cX8_canBeSaid 0 = .ok (.iload_n 3, 1) := by decide +kernel
theorem dX8_canBeSaid_1 : decode cX8_canBeSaid 1 = .ok (.aload_n 0, 1) := by decide +kernel
theorem dX8_canBeSaid_2 : decode cX8_canBeSaid 2 = .ok (.getfield 125, 3) := by decide +kernel
theorem dX8_canBeSaid_5 : decode cX8_canBeSaid 5 = .ok (.iconst 1, 1) := by decide +kernel
theorem dX8_canBeSaid_6 : decode cX8_canBeSaid 6 = .ok (.isub, 1) := by decide +kernel
theorem dX8_canBeSaid_7 : decode cX8_canBeSaid 7 = .ok (.if_icmp .ne 23, 3) := by decide +kernel
theorem dX8_canBeSaid_10 : decode cX8_canBeSaid 10 = .ok (.aload_n 0, 1) := by decide +kernel
theorem dX8_canBeSaid_11 : decode cX8_canBeSaid 11 = .ok (.iload_n 1, 1) := by decide +kernel
theorem dX8_canBeSaid_12 : decode cX8_canBeSaid 12 = .ok (.invokevirtual 84, 3) := by decide +kernel
theorem dX8_canBeSaid_15 : decode cX8_canBeSaid 15 = .ok (.aload_n 0, 1) := by decide +kernel
theorem dX8_canBeSaid_16 : decode cX8_canBeSaid 16 = .ok (.getfield 22, 3) := by decide +kernel
theorem dX8_canBeSaid_19 : decode cX8_canBeSaid 19 = .ok (.iload_n 3, 1) := by decide +kernel
theorem dX8_canBeSaid_20 : decode cX8_canBeSaid 20 = .ok (.iaload, 1) := by decide +kernel
theorem dX8_canBeSaid_21 : decode cX8_canBeSaid 21 = .ok (.if_icmp .ne 7, 3) := by decide +kernel
theorem dX8_canBeSaid_24 : decode cX8_canBeSaid 24 = .ok (.iconst 1, 1) := by decide +kernel
theorem dX8_canBeSaid_25 : decode cX8_canBeSaid 25 = .ok (.goto 4, 3) := by decide +kernel
theorem dX8_canBeSaid_28 : decode cX8_canBeSaid 28 = .ok (.iconst 0, 1) := by decide +kernel
theorem dX8_canBeSaid_29 : decode cX8_canBeSaid 29 = .ok (.ireturn, 1) := by decide +kernel
theorem dX8_canBeSaid_30 : decode cX8_canBeSaid 30 = .ok (.iconst 0, 1) := by decide +kernel
theorem dX8_canBeSaid_31 : decode cX8_canBeSaid 31 = .ok (.istore 4, 2) := by decide +kernel
theorem dX8_canBeSaid_33 : decode cX8_canBeSaid 33 = .ok (.iload 4, 2) := by decide +kernel
theorem dX8_canBeSaid_35 : decode cX8_canBeSaid 35 = .ok (.iconst 4, 1) := by decide +kernel
theorem dX8_canBeSaid_36 : decode cX8_canBeSaid 36 = .ok (.if_icmp .ge 57, 3) := by decide +kernel
theorem dX8_canBeSaid_39 : decode cX8_canBeSaid 39 = .ok (.aload_n 0, 1) := by decide +kernel
theorem dX8_canBeSaid_40 : decode cX8_canBeSaid 40 = .ok (.iload_n 1, 1) := by decide +kernel
theorem dX8_canBeSaid_41 : decode cX8_canBeSaid 41 = .ok (.iload 4, 2) := by decide +kernel
theorem dX8_canBeSaid_43 : decode cX8_canBeSaid 43 = .ok (.invokevirtual 128, 3) := by decide +kernel
theorem dX8_canBeSaid_46 : decode cX8_canBeSaid 46 = .ok (.istore 5, 2) := by decide +kernel
theorem dX8_canBeSaid_48 : decode cX8_canBeSaid 48 = .ok (.iload 5, 2) := by decide +kernel
theorem dX8_canBeSaid_50 : decode cX8_canBeSaid 50 = .ok (.ifCond .lt 37, 3) := by decide +kernel
theorem dX8_canBeSaid_53 : decode cX8_canBeSaid 53 = .ok (.aload_n 0, 1) := by decide +kernel
theorem dX8_canBeSaid_54 : decode cX8_canBeSaid 54 = .ok (.iload_n 1, 1) := by decide +kernel
theorem dX8_canBeSaid_55 : decode cX8_canBeSaid 55 = .ok (.iload_n 2, 1) := by decide +kernel
theorem dX8_canBeSaid_56 : decode cX8_canBeSaid 56 = .ok (.iload 4, 2) := by decide +kernel
theorem dX8_canBeSaid_58 : decode cX8_canBeSaid 58 = .ok (.invokevirtual 148, 3) := by decide +kernel
theorem dX8_canBeSaid_61 : decode cX8_canBeSaid 61 = .ok (.aload_n 0, 1) := by decide +kernel
theorem dX8_canBeSaid_62 : decode cX8_canBeSaid 62 = .ok (.getfield 22, 3) := by decide +kernel
theorem dX8_canBeSaid_65 : decode cX8_canBeSaid 65 = .ok (.iload_n 3, 1) := by decide +kernel
theorem dX8_canBeSaid_66 : decode cX8_canBeSaid 66 = .ok (.iaload, 1) := by decide +kernel
theorem dX8_canBeSaid_67 : decode cX8_canBeSaid 67 = .ok (.if_icmp .ne 20, 3) := by decide +kernel
theorem dX8_canBeSaid_70 : decode cX8_canBeSaid 70 = .ok (.aload_n 0, 1) := by decide +kernel
theorem dX8_canBeSaid_71 : decode cX8_canBeSaid 71 = .ok (.getfield 46, 3) := by decide +kernel
theorem dX8_canBeSaid_74 : decode cX8_canBeSaid 74 = .ok (.iload 5, 2) := by decide +kernel
theorem dX8_canBeSaid_76 : decode cX8_canBeSaid 76 = .ok (.iload 4, 2) := by decide +kernel
theorem dX8_canBeSaid_78 : decode cX8_canBeSaid 78 = .ok (.invokestatic 152, 3) := by decide +kernel
theorem dX8_canBeSaid_81 : decode cX8_canBeSaid 81 = .ok (.baload, 1) := by decide +kernel
theorem dX8_canBeSaid_82 : decode cX8_canBeSaid 82 = .ok (.ifCond .eq 5, 3) := by decide +kernel
theorem dX8_canBeSaid_85 : decode cX8_canBeSaid 85 = .ok (.iconst 1, 1) := by decide +kernel
theorem dX8_canBeSaid_86 : decode cX8_canBeSaid 86 = .ok (.ireturn, 1) := by decide +kernel
theorem dX8_canBeSaid_87 : decode cX8_canBeSaid 87 = .ok (.iinc 4 1, 3) := by decide +kernel
theorem dX8_canBeSaid_90 : decode cX8_canBeSaid 90 = .ok (.goto (-57), 3) := by decide +kernel
theorem dX8_canBeSaid_93 : decode cX8_canBeSaid 93 = .ok (.iconst 0, 1) := by decide +kernel
theorem dX8_canBeSaid_94 : decode cX8_canBeSaid 94 = .ok (.ireturn, 1) := by decide +kernel
set_option maxRecDepth 20000 in
theorem ggX8_said_X8_isIn : GoodIn wsX8_said wsX8_isIn := goodIn_r _ [7] (by decide +kernel) (by decide +kernel)
set_option maxRecDepth 20000 in
theorem gX8_said_X8_isIn : GoodIn wsX8_said (va_wsS RX8 53 yX8_isIn wsX8_isIn) := goodIn_app (goodIn_of _ (by decide +kernel)) ggX8_said_X8_isIn
set_option maxRecDepth 20000 in
theorem ggX8_said_X8_no : GoodIn wsX8_said wsX8_no := goodIn_r _ [11, 12, 52, 53, 54, 55, 56, 57, 58, 59, 60, 61, 62, 63, 64, 65, 66, 67, 68, 69, 70] (by decide +kernel) (by decide +kernel)
set_option maxRecDepth 20000 in
theorem gX8_said_X8_no : GoodIn wsX8_said (wsV RX8 87 RX8 yX8_no wsX8_no) := goodIn_app (goodIn_of _ (by decide +kernel)) ggX8_said_X8_no
set_option maxRecDepth 20000 in
theorem ggX8_said_X8_at : GoodIn wsX8_said wsX8_at := goodIn_r _ [15] (by decide +kernel) (by decide +kernel)
set_option maxRecDepth 20000 in
theorem gX8_said_X8_at : GoodIn wsX8_said (va_wsS RX8 152 yX8_at wsX8_at) := goodIn_app (goodIn_of _ (by decide +kernel)) ggX8_said_X8_at
set_option maxRecDepth 20000 in
theorem ggX8_said_X8_canBe : GoodIn wsX8_said wsX8_canBe := goodIn_r _ [19, 20, 21, 22, 6, 23, 52, 53, 54, 55, 56, 57, 58, 59, 60, 61, 62, 63, 64, 65, 66, 67, 68, 69, 70] (by decide +kernel) (by decide +kernel)
set_option maxRecDepth 20000 in
theorem gX8_said_X8_canBe : GoodIn wsX8_said (wsV RX8 75 RX8 yX8_canBe wsX8_canBe) := goodIn_app (goodIn_of _ (by decide +kernel)) ggX8_said_X8_canBe
set_option maxRecDepth 20000 in
theorem ggX8_said_X8_canBeSaid : GoodIn wsX8_said wsX8_canBeSaid := goodIn_r _ [27, 1, 28, 3, 29, 30, 31, 6, 32, 20, 33, 34, 35, 36, 37, 38, 39, 4, 5, 7, 16, 17, 18, 19, 21, 22, 23, 40, 41, 42, 43, 44, 45, 46, 47, 48, 49, 50, 51, 13, 14, 15, 52, 53, 54, 55, 56, 57, 58, 59, 60, 61, 62, 63, 64, 65, 66, 67, 68, 69, 70] (by decide +kernel) (by decide +kernel)
set_option maxRecDepth 20000 in
theorem gX8_said_X8_canBeSaid : GoodIn wsX8_said (wsV RX8 192 RX8 yX8_canBeSaid wsX8_canBeSaid) := goodIn_app (goodIn_of _ (by decide +kernel)) ggX8_said_X8_canBeSaid
theorem dX8_said_0 : decode cX8_said 0 = .ok (.iload_n 1, 1) := by decide +kernel
theorem dX8_said_1 : decode cX8_said 1 = .ok (.iconst 0, 1) := by decide +kernel
theorem dX8_said_2 : decode cX8_said 2 = .ok (.iconst 1, 1) := by decide +kernel
theorem dX8_said_3 : decode cX8_said 3 = .ok (.invokestatic 53, 3) := by decide +kernel
theorem dX8_said_6 : decode cX8_said 6 = .ok (.ifCond .ne 10, 3) := by decide +kernel
theorem dX8_said_9 : decode cX8_said 9 = .ok (.aload_n 0, 1) := by decide +kernel
theorem dX8_said_10 : decode cX8_said 10 = .ok (.bipush (-2), 2) := by decide +kernel
theorem dX8_said_12 : decode cX8_said 12 = .ok (.invokevirtual 87, 3) := by decide +kernel
theorem dX8_said_15 : decode cX8_said 15 = .ok (.ireturn, 1) := by decide +kernel
theorem dX8_said_16 : decode cX8_said 16 = .ok (.aload_n 0, 1) := by decide +kernel
theorem dX8_said_17 : decode cX8_said 17 = .ok (.getfield 125, 3) := by decide +kernel
theorem dX8_said_20 : decode cX8_said 20 = .ok (.ifCond .ne 10, 3) := by decide +kernel
theorem dX8_said_23 : decode cX8_said 23 = .ok (.aload_n 0, 1) := by decide +kernel
theorem dX8_said_24 : decode cX8_said 24 = .ok (.bipush (-3), 2) := by decide +kernel
theorem dX8_said_26 : decode cX8_said 26 = .ok (.invokevirtual 87, 3) := by decide +kernel
theorem dX8_said_29 : decode cX8_said 29 = .ok (.ireturn, 1) := by decide +kernel
theorem dX8_said_30 : decode cX8_said 30 = .ok (.aload_n 0, 1) := by decide +kernel
theorem dX8_said_31 : decode cX8_said 31 = .ok (.getfield 125, 3) := by decide +kernel
theorem dX8_said_34 : decode cX8_said 34 = .ok (.iconst 1, 1) := by decide +kernel
theorem dX8_said_35 : decode cX8_said 35 = .ok (.isub, 1) := by decide +kernel
theorem dX8_said_36 : decode cX8_said 36 = .ok (.istore_n 2, 1) := by decide +kernel
theorem dX8_said_37 : decode cX8_said 37 = .ok (.iload_n 2, 1) := by decide +kernel
theorem dX8_said_38 : decode cX8_said 38 = .ok (.ifCond .lt 100, 3) := by decide +kernel
theorem dX8_said_41 : decode cX8_said 41 = .ok (.iconst 0, 1) := by decide +kernel
theorem dX8_said_42 : decode cX8_said 42 = .ok (.istore_n 3, 1) := by decide +kernel
theorem dX8_said_43 : decode cX8_said 43 = .ok (.iload_n 3, 1) := by decide +kernel
theorem dX8_said_44 : decode cX8_said 44 = .ok (.bipush 36, 2) := by decide +kernel
theorem dX8_said_46 : decode cX8_said 46 = .ok (.if_icmp .ge 59, 3) := by decide +kernel
theorem dX8_said_49 : decode cX8_said 49 = .ok (.iconst 0, 1) := by decide +kernel
theorem dX8_said_50 : decode cX8_said 50 = .ok (.istore 4, 2) := by decide +kernel
theorem dX8_said_52 : decode cX8_said 52 = .ok (.iload 4, 2) := by decide +kernel
theorem dX8_said_54 : decode cX8_said 54 = .ok (.iconst 4, 1) := by decide +kernel
theorem dX8_said_55 : decode cX8_said 55 = .ok (.if_icmp .gt 44, 3) := by decide +kernel
theorem dX8_said_58 : decode cX8_said 58 = .ok (.aload_n 0, 1) := by decide +kernel
theorem dX8_said_59 : decode cX8_said 59 = .ok (.getfield 50, 3) := by decide +kernel
theorem dX8_said_62 : decode cX8_said 62 = .ok (.iload_n 3, 1) := by decide +kernel
theorem dX8_said_63 : decode cX8_said 63 = .ok (.iload 4, 2) := by decide +kernel
theorem dX8_said_65 : decode cX8_said 65 = .ok (.invokestatic 152, 3) := by decide +kernel
theorem dX8_said_68 : decode cX8_said 68 = .ok (.aload_n 0, 1) := by decide +kernel
theorem dX8_said_69 : decode cX8_said 69 = .ok (.iload_n 3, 1) := by decide +kernel
theorem dX8_said_70 : decode cX8_said 70 = .ok (.invokevirtual 75, 3) := by decide +kernel
theorem dX8_said_73 : decode cX8_said 73 = .ok (.ifCond .eq 18, 3) := by decide +kernel
theorem dX8_said_76 : decode cX8_said 76 = .ok (.aload_n 0, 1) := by decide +kernel
theorem dX8_said_77 : decode cX8_said 77 = .ok (.iload_n 3, 1) := by decide +kernel
theorem dX8_said_78 : decode cX8_said 78 = .ok (.iload 4, 2) := by decide +kernel
theorem dX8_said_80 : decode cX8_said 80 = .ok (.iload_n 2, 1) := by decide +kernel
theorem dX8_said_81 : decode cX8_said 81 = .ok (.invokevirtual 192, 3) := by decide +kernel
theorem dX8_said_84 : decode cX8_said 84 = .ok (.ifCond .eq 7, 3) := by decide +kernel
theorem dX8_said_87 : decode cX8_said 87 = .ok (.iconst 1, 1) := by decide +kernel
theorem dX8_said_88 : decode cX8_said 88 = .ok (.goto 4, 3) := by decide +kernel
theorem dX8_said_91 : decode cX8_said 91 = .ok (.iconst 0, 1) := by decide +kernel
theorem dX8_said_92 : decode cX8_said 92 = .ok (.bastore, 1) := by decide +kernel
theorem dX8_said_93 : decode cX8_said 93 = .ok (.iinc 4 1, 3) := by decide +kernel
theorem dX8_said_96 : decode cX8_said 96 = .ok (.goto (-44), 3) := by decide +kernel
theorem dX8_said_99 : decode cX8_said 99 = .ok (.iinc 3 1, 3) := by decide +kernel
theorem dX8_said_102 : decode cX8_said 102 = .ok (.goto (-59), 3) := by decide +kernel
theorem dX8_said_105 : decode cX8_said 105 = .ok (.iconst 0, 1) := by decide +kernel
theorem dX8_said_106 : decode cX8_said 106 = .ok (.istore_n 3, 1) := by decide +kernel
theorem dX8_said_107 : decode cX8_said 107 = .ok (.iload_n 3, 1) := by decide +kernel
theorem dX8_said_108 : decode cX8_said 108 = .ok (.sipush 180, 3) := by decide +kernel
theorem dX8_said_111 : decode cX8_said 111 = .ok (.if_icmp .ge 21, 3) := by decide +kernel
theorem dX8_said_114 : decode cX8_said 114 = .ok (.aload_n 0, 1) := by decide +kernel
theorem dX8_said_115 : decode cX8_said 115 = .ok (.getfield 46, 3) := by decide +kernel
theorem dX8_said_118 : decode cX8_said 118 = .ok (.iload_n 3, 1) := by decide +kernel
theorem dX8_said_119 : decode cX8_said 119 = .ok (.aload_n 0, 1) := by decide +kernel
theorem dX8_said_120 : decode cX8_said 120 = .ok (.getfield 50, 3) := by decide +kernel
theorem dX8_said_123 : decode cX8_said 123 = .ok (.iload_n 3, 1) := by decide +kernel
theorem dX8_said_124 : decode cX8_said 124 = .ok (.baload, 1) := by decide +kernel
theorem dX8_said_125 : decode cX8_said 125 = .ok (.bastore, 1) := by decide +kernel
theorem dX8_said_126 : decode cX8_said 126 = .ok (.iinc 3 1, 3) := by decide +kernel
theorem dX8_said_129 : decode cX8_said 129 = .ok (.goto (-22), 3) := by decide +kernel
theorem dX8_said_132 : decode cX8_said 132 = .ok (.iinc 2 (-1), 3) := by decide +kernel
theorem dX8_said_135 : decode cX8_said 135 = .ok (.goto (-98), 3) := by decide +kernel
theorem dX8_said_138 : decode cX8_said 138 = .ok (.iconst 0, 1) := by decide +kernel
theorem dX8_said_139 : decode cX8_said 139 = .ok (.istore_n 2, 1) := by decide +kernel
theorem dX8_said_140 : decode cX8_said 140 = .ok (.bipush (-9), 2) := by decide +kernel
theorem dX8_said_142 : decode cX8_said 142 = .ok (.istore_n 3, 1) := by decide +kernel
theorem dX8_said_143 : decode cX8_said 143 = .ok (.bipush 35, 2) := by decide +kernel
theorem dX8_said_145 : decode cX8_said 145 = .ok (.istore 4, 2) := by decide +kernel
theorem dX8_said_147 : decode cX8_said 147 = .ok (.iload 4, 2) := by decide +kernel
theorem dX8_said_149 : decode cX8_said 149 = .ok (.ifCond .lt 32, 3) := by decide +kernel
theorem dX8_said_152 : decode cX8_said 152 = .ok (.aload_n 0, 1) := by decide +kernel
theorem dX8_said_153 : decode cX8_said 153 = .ok (.getfield 46, 3) := by decide +kernel
theorem dX8_said_156 : decode cX8_said 156 = .ok (.iload 4, 2) := by decide +kernel
theorem dX8_said_158 : decode cX8_said 158 = .ok (.iconst 4, 1) := by decide +kernel
theorem dX8_said_159 : decode cX8_said 159 = .ok (.invokestatic 152, 3) := by decide +kernel
theorem dX8_said_162 : decode cX8_said 162 = .ok (.baload, 1) := by decide +kernel
theorem dX8_said_163 : decode cX8_said 163 = .ok (.ifCond .ne 6, 3) := by decide +kernel
theorem dX8_said_166 : decode cX8_said 166 = .ok (.goto 9, 3) := by decide +kernel
theorem dX8_said_169 : decode cX8_said 169 = .ok (.iinc 2 1, 3) := by decide +kernel
theorem dX8_said_172 : decode cX8_said 172 = .ok (.iload 4, 2) := by decide +kernel
theorem dX8_said_174 : decode cX8_said 174 = .ok (.istore_n 3, 1) := by decide +kernel
theorem dX8_said_175 : decode cX8_said 175 = .ok (.iinc 4 (-1), 3) := by decide +kernel
theorem dX8_said_178 : decode cX8_said 178 = .ok (.goto (-31), 3) := by decide +kernel
theorem dX8_said_181 : decode cX8_said 181 = .ok (.iload_n 1, 1) := by decide +kernel
theorem dX8_said_182 : decode cX8_said 182 = .ok (.ifCond .ne 7, 3) := by decide +kernel
theorem dX8_said_185 : decode cX8_said 185 = .ok (.iload_n 2, 1) := by decide +kernel
theorem dX8_said_186 : decode cX8_said 186 = .ok (.goto 4, 3) := by decide +kernel
theorem dX8_said_189 : decode cX8_said 189 = .ok (.iload_n 3, 1) := by decide +kernel
theorem dX8_said_190 : decode cX8_said 190 = .ok (.ireturn, 1) := by decide +kernel
set_option maxRecDepth 20000 in
theorem ggX8_row_X8_no : GoodIn wsX8_row wsX8_no := goodIn_r _ [7, 8, 9, 10, 11, 12, 13, 14, 15, 16, 17, 18, 19, 20, 21, 22, 23, 24, 25, 26, 27] (by decide +kernel) (by decide +kernel)
set_option maxRecDepth 20000 in
theorem gX8_row_X8_no : GoodIn wsX8_row (wsV RX8 87 RX8 yX8_no wsX8_no) := goodIn_app (goodIn_of _ (by decide +kernel)) ggX8_row_X8_no
theorem dX8_row_0 : decode cX8_row 0 = .ok (.iload_n 1, 1) := by decide +kernel
theorem dX8_row_1 : decode cX8_row 1 = .ok (.ifCond .ge 10, 3) := by decide +kernel
theorem dX8_row_4 : decode cX8_row 4 = .ok (.aload_n 0, 1) := by decide +kernel
theorem dX8_row_5 : decode cX8_row 5 = .ok (.bipush (-4), 2) := by decide +kernel
theorem dX8_row_7 : decode cX8_row 7 = .ok (.invokevirtual 87, 3) := by decide +kernel
theorem dX8_row_10 : decode cX8_row 10 = .ok (.ireturn, 1) := by decide +kernel
theorem dX8_row_11 : decode cX8_row 11 = .ok (.iload_n 1, 1) := by decide +kernel
theorem dX8_row_12 : decode cX8_row 12 = .ok (.bipush 9, 2) := by decide +kernel
theorem dX8_row_14 : decode cX8_row 14 = .ok (.if_icmp .gt 12, 3) := by decide +kernel
theorem dX8_row_17 : decode cX8_row 17 = .ok (.aload_n 0, 1) := by decide +kernel
theorem dX8_row_18 : decode cX8_row 18 = .ok (.getfield 125, 3) := by decide +kernel
theorem dX8_row_21 : decode cX8_row 21 = .ok (.bipush 20, 2) := by decide +kernel
theorem dX8_row_23 : decode cX8_row 23 = .ok (.if_icmp .ne 10, 3) := by decide +kernel
theorem dX8_row_26 : decode cX8_row 26 = .ok (.aload_n 0, 1) := by decide +kernel
theorem dX8_row_27 : decode cX8_row 27 = .ok (.bipush (-6), 2) := by decide +kernel
theorem dX8_row_29 : decode cX8_row 29 = .ok (.invokevirtual 87, 3) := by decide +kernel
theorem dX8_row_32 : decode cX8_row 32 = .ok (.ireturn, 1) := by decide +kernel
theorem dX8_row_33 : decode cX8_row 33 = .ok (.aload_n 0, 1) := by decide +kernel
theorem dX8_row_34 : decode cX8_row 34 = .ok (.getfield 22, 3) := by decide +kernel
theorem dX8_row_37 : decode cX8_row 37 = .ok (.aload_n 0, 1) := by decide +kernel
theorem dX8_row_38 : decode cX8_row 38 = .ok (.getfield 125, 3) := by decide +kernel
theorem dX8_row_41 : decode cX8_row 41 = .ok (.iload_n 1, 1) := by decide +kernel
theorem dX8_row_42 : decode cX8_row 42 = .ok (.iastore, 1) := by decide +kernel
theorem dX8_row_43 : decode cX8_row 43 = .ok (.aload_n 0, 1) := by decide +kernel
theorem dX8_row_44 : decode cX8_row 44 = .ok (.dup, 1) := by decide +kernel
theorem dX8_row_45 : decode cX8_row 45 = .ok (.getfield 125, 3) := by decide +kernel
theorem dX8_row_48 : decode cX8_row 48 = .ok (.iconst 1, 1) := by decide +kernel
theorem dX8_row_49 : decode cX8_row 49 = .ok (.iadd, 1) := by decide +kernel
theorem dX8_row_50 : decode cX8_row 50 = .ok (.putfield 125, 3) := by decide +kernel
theorem dX8_row_53 : decode cX8_row 53 = .ok (.aload_n 0, 1) := by decide +kernel
theorem dX8_row_54 : decode cX8_row 54 = .ok (.getfield 125, 3) := by decide +kernel
theorem dX8_row_57 : decode cX8_row 57 = .ok (.ireturn, 1) := by decide +kernel
set_option maxRecDepth 20000 in
theorem ggX8_judge_X8_areWays : GoodIn wsX8_judge wsX8_areWays := goodIn_r _ [6, 1, 7, 35, 36, 37, 38, 39, 40, 41, 42, 43, 44, 45, 46, 47, 48, 49, 50, 51, 52, 53] (by decide +kernel) (by decide +kernel)
set_option maxRecDepth 20000 in
theorem gX8_judge_X8_areWays : GoodIn wsX8_judge (wsV RX8 131 RX8 yX8_areWays wsX8_areWays) := goodIn_app (goodIn_of _ (by decide +kernel)) ggX8_judge_X8_areWays
set_option maxRecDepth 20000 in
theorem ggX8_judge_X8_no : GoodIn wsX8_judge wsX8_no := goodIn_r _ [11, 12, 35, 36, 37, 38, 39, 40, 41, 42, 43, 44, 45, 46, 47, 48, 49, 50, 51, 52, 53] (by decide +kernel) (by decide +kernel)
set_option maxRecDepth 20000 in
theorem gX8_judge_X8_no : GoodIn wsX8_judge (wsV RX8 87 RX8 yX8_no wsX8_no) := goodIn_app (goodIn_of _ (by decide +kernel)) ggX8_judge_X8_no
set_option maxRecDepth 20000 in
theorem ggX8_judge_X8_firstWrong : GoodIn wsX8_judge wsX8_firstWrong := goodIn_r _ [16, 17, 1, 7, 18, 19, 20, 5, 21, 22, 23, 24, 25, 26, 27, 28, 29, 30, 31, 32, 33, 34, 35, 36, 37, 38, 39, 40, 41, 42, 43, 44, 45, 46, 47, 48, 49, 50, 51, 52, 53] (by decide +kernel) (by decide +kernel)
set_option maxRecDepth 20000 in
theorem gX8_judge_X8_firstWrong : GoodIn wsX8_judge (wsV RX8 134 RX8 yX8_firstWrong wsX8_firstWrong) := goodIn_app (goodIn_of _ (by decide +kernel)) ggX8_judge_X8_firstWrong
theorem dX8_judge_0 : decode cX8_judge 0 = .ok (.aload_n 0, 1) := by decide +kernel
theorem dX8_judge_1 : decode cX8_judge 1 = .ok (.invokevirtual 131, 3) := by decide +kernel
theorem dX8_judge_4 : decode cX8_judge 4 = .ok (.ifCond .ne 10, 3) := by decide +kernel
theorem dX8_judge_7 : decode cX8_judge 7 = .ok (.aload_n 0, 1) := by decide +kernel
theorem dX8_judge_8 : decode cX8_judge 8 = .ok (.bipush (-3), 2) := by decide +kernel
theorem dX8_judge_10 : decode cX8_judge 10 = .ok (.invokevirtual 87, 3) := by decide +kernel
theorem dX8_judge_13 : decode cX8_judge 13 = .ok (.ireturn, 1) := by decide +kernel
theorem dX8_judge_14 : decode cX8_judge 14 = .ok (.aload_n 0, 1) := by decide +kernel
theorem dX8_judge_15 : decode cX8_judge 15 = .ok (.invokevirtual 134, 3) := by decide +kernel
theorem dX8_judge_18 : decode cX8_judge 18 = .ok (.istore_n 1, 1) := by decide +kernel
theorem dX8_judge_19 : decode cX8_judge 19 = .ok (.aload_n 0, 1) := by decide +kernel
theorem dX8_judge_20 : decode cX8_judge 20 = .ok (.iconst 0, 1) := by decide +kernel
theorem dX8_judge_21 : decode cX8_judge 21 = .ok (.putfield 125, 3) := by decide +kernel
theorem dX8_judge_24 : decode cX8_judge 24 = .ok (.iload_n 1, 1) := by decide +kernel
theorem dX8_judge_25 : decode cX8_judge 25 = .ok (.ireturn, 1) := by decide +kernel
theorem dX8_clear_0 : decode cX8_clear 0 = .ok (.aload_n 0, 1) := by decide +kernel
theorem dX8_clear_1 : decode cX8_clear 1 = .ok (.getfield 125, 3) := by decide +kernel
theorem dX8_clear_4 : decode cX8_clear 4 = .ok (.istore_n 1, 1) := by decide +kernel
theorem dX8_clear_5 : decode cX8_clear 5 = .ok (.aload_n 0, 1) := by decide +kernel
theorem dX8_clear_6 : decode cX8_clear 6 = .ok (.iconst 0, 1) := by decide +kernel
theorem dX8_clear_7 : decode cX8_clear 7 = .ok (.putfield 125, 3) := by decide +kernel
theorem dX8_clear_10 : decode cX8_clear 10 = .ok (.iload_n 1, 1) := by decide +kernel
theorem dX8_clear_11 : decode cX8_clear 11 = .ok (.ireturn, 1) := by decide +kernel
theorem dX8_drawn_0 : decode cX8_drawn 0 = .ok (.aload_n 0, 1) := by decide +kernel
theorem dX8_drawn_1 : decode cX8_drawn 1 = .ok (.aload_n 0, 1) := by decide +kernel
theorem dX8_drawn_2 : decode cX8_drawn 2 = .ok (.getfield 195, 3) := by decide +kernel
theorem dX8_drawn_5 : decode cX8_drawn 5 = .ok (.ldc 198, 2) := by decide +kernel
theorem dX8_drawn_7 : decode cX8_drawn 7 = .ok (.imul, 1) := by decide +kernel
theorem dX8_drawn_8 : decode cX8_drawn 8 = .ok (.ldc 199, 2) := by decide +kernel
theorem dX8_drawn_10 : decode cX8_drawn 10 = .ok (.iadd, 1) := by decide +kernel
theorem dX8_drawn_11 : decode cX8_drawn 11 = .ok (.putfield 195, 3) := by decide +kernel
theorem dX8_drawn_14 : decode cX8_drawn 14 = .ok (.aload_n 0, 1) := by decide +kernel
theorem dX8_drawn_15 : decode cX8_drawn 15 = .ok (.getfield 195, 3) := by decide +kernel
theorem dX8_drawn_18 : decode cX8_drawn 18 = .ok (.ldc 200, 2) := by decide +kernel
theorem dX8_drawn_20 : decode cX8_drawn 20 = .ok (.iand, 1) := by decide +kernel
theorem dX8_drawn_21 : decode cX8_drawn 21 = .ok (.sipush 256, 3) := by decide +kernel
theorem dX8_drawn_24 : decode cX8_drawn 24 = .ok (.idiv, 1) := by decide +kernel
theorem dX8_drawn_25 : decode cX8_drawn 25 = .ok (.iload_n 1, 1) := by decide +kernel
theorem dX8_drawn_26 : decode cX8_drawn 26 = .ok (.irem, 1) := by decide +kernel
theorem dX8_drawn_27 : decode cX8_drawn 27 = .ok (.ireturn, 1) := by decide +kernel
set_option maxRecDepth 20000 in
theorem ggX8_lots_X8_no : GoodIn wsX8_lots wsX8_no := goodIn_r _ [7, 8, 49, 50, 51, 52, 53, 54, 55, 56, 57, 58, 59, 60, 61, 62, 63, 64, 65, 66, 67] (by decide +kernel) (by decide +kernel)
set_option maxRecDepth 20000 in
theorem gX8_lots_X8_no : GoodIn wsX8_lots (wsV RX8 87 RX8 yX8_no wsX8_no) := goodIn_app (goodIn_of _ (by decide +kernel)) ggX8_lots_X8_no
set_option maxRecDepth 20000 in
theorem ggX8_lots_X8_isIn : GoodIn wsX8_lots wsX8_isIn := goodIn_r _ [11] (by decide +kernel) (by decide +kernel)
set_option maxRecDepth 20000 in
theorem gX8_lots_X8_isIn : GoodIn wsX8_lots (va_wsS RX8 53 yX8_isIn wsX8_isIn) := goodIn_app (goodIn_of _ (by decide +kernel)) ggX8_lots_X8_isIn
set_option maxRecDepth 20000 in
theorem ggX8_lots_X8_drawn : GoodIn wsX8_lots wsX8_drawn := goodIn_r _ [15, 1, 16, 17, 18, 49, 50, 51, 52, 53, 54, 55, 56, 57, 58, 59, 60, 61, 62, 63, 64, 65, 66, 67] (by decide +kernel) (by decide +kernel)
set_option maxRecDepth 20000 in
theorem gX8_lots_X8_drawn : GoodIn wsX8_lots (wsV RX8 201 RX8 yX8_drawn wsX8_drawn) := goodIn_app (goodIn_of _ (by decide +kernel)) ggX8_lots_X8_drawn
set_option maxRecDepth 20000 in
theorem ggX8_lots_X8_gone : GoodIn wsX8_lots wsX8_gone := goodIn_r _ [22, 23, 24, 6, 25, 9, 10, 11, 26, 27, 28, 29, 2, 30, 31, 32, 49, 50, 51, 52, 53, 54, 55, 56, 57, 58, 59, 60, 61, 62, 63, 64, 65, 66, 67] (by decide +kernel) (by decide +kernel)
set_option maxRecDepth 20000 in
theorem gX8_lots_X8_gone : GoodIn wsX8_lots (wsV RX8 128 RX8 yX8_gone wsX8_gone) := goodIn_app (goodIn_of _ (by decide +kernel)) ggX8_lots_X8_gone
set_option maxRecDepth 20000 in
theorem ggX8_lots_X8_saidOn : GoodIn wsX8_lots wsX8_saidOn := goodIn_r _ [36, 37, 38, 39, 6, 40, 41, 42, 43, 44, 2, 45, 46, 47, 48, 49, 50, 51, 52, 53, 54, 55, 56, 57, 58, 59, 60, 61, 62, 63, 64, 65, 66, 67] (by decide +kernel) (by decide +kernel)
set_option maxRecDepth 20000 in
theorem gX8_lots_X8_saidOn : GoodIn wsX8_lots (wsV RX8 148 RX8 yX8_saidOn wsX8_saidOn) := goodIn_app (goodIn_of _ (by decide +kernel)) ggX8_lots_X8_saidOn
set_option maxRecDepth 20000 in
theorem ggX8_lots_X8_isCorner : GoodIn wsX8_lots wsX8_isCorner := goodIn_r _ [40, 41, 42, 43, 6, 44, 2, 49, 50, 51, 52, 53, 54, 55, 56, 57, 58, 59, 60, 61, 62, 63, 64, 65, 66, 67] (by decide +kernel) (by decide +kernel)
set_option maxRecDepth 20000 in
theorem gX8_lots_X8_isCorner : GoodIn wsX8_lots (wsV RX8 81 RX8 yX8_isCorner wsX8_isCorner) := goodIn_app (goodIn_of _ (by decide +kernel)) ggX8_lots_X8_isCorner
set_option maxRecDepth 20000 in
theorem ggX8_lots_X8_wordsOn : GoodIn wsX8_lots wsX8_wordsOn := goodIn_r _ [48, 2, 49, 50, 51, 52, 53, 54, 55, 56, 57, 58, 59, 60, 61, 62, 63, 64, 65, 66, 67] (by decide +kernel) (by decide +kernel)
set_option maxRecDepth 20000 in
theorem gX8_lots_X8_wordsOn : GoodIn wsX8_lots (wsV RX8 84 RX8 yX8_wordsOn wsX8_wordsOn) := goodIn_app (goodIn_of _ (by decide +kernel)) ggX8_lots_X8_wordsOn
theorem dX8_lots_0 : decode cX8_lots 0 = .ok (.iload_n 1, 1) := by decide +kernel
theorem dX8_lots_1 : decode cX8_lots 1 = .ok (.iconst 1, 1) := by decide +kernel
theorem dX8_lots_2 : decode cX8_lots 2 = .ok (.if_icmp .ge 10, 3) := by decide +kernel
theorem dX8_lots_5 : decode cX8_lots 5 = .ok (.aload_n 0, 1) := by decide +kernel
theorem dX8_lots_6 : decode cX8_lots 6 = .ok (.bipush (-4), 2) := by decide +kernel
theorem dX8_lots_8 : decode cX8_lots 8 = .ok (.invokevirtual 87, 3) := by decide +kernel
theorem dX8_lots_11 : decode cX8_lots 11 = .ok (.ireturn, 1) := by decide +kernel
theorem dX8_lots_12 : decode cX8_lots 12 = .ok (.iload_n 1, 1) := by decide +kernel
theorem dX8_lots_13 : decode cX8_lots 13 = .ok (.bipush 20, 2) := by decide +kernel
theorem dX8_lots_15 : decode cX8_lots 15 = .ok (.if_icmp .le 10, 3) := by decide +kernel
theorem dX8_lots_18 : decode cX8_lots 18 = .ok (.aload_n 0, 1) := by decide +kernel
theorem dX8_lots_19 : decode cX8_lots 19 = .ok (.bipush (-6), 2) := by decide +kernel
theorem dX8_lots_21 : decode cX8_lots 21 = .ok (.invokevirtual 87, 3) := by decide +kernel
theorem dX8_lots_24 : decode cX8_lots 24 = .ok (.ireturn, 1) := by decide +kernel
theorem dX8_lots_25 : decode cX8_lots 25 = .ok (.iload_n 3, 1) := by decide +kernel
theorem dX8_lots_26 : decode cX8_lots 26 = .ok (.iconst 0, 1) := by decide +kernel
theorem dX8_lots_27 : decode cX8_lots 27 = .ok (.iconst 1, 1) := by decide +kernel
theorem dX8_lots_28 : decode cX8_lots 28 = .ok (.invokestatic 53, 3) := by decide +kernel
theorem dX8_lots_31 : decode cX8_lots 31 = .ok (.ifCond .ne 10, 3) := by decide +kernel
theorem dX8_lots_34 : decode cX8_lots 34 = .ok (.aload_n 0, 1) := by decide +kernel
theorem dX8_lots_35 : decode cX8_lots 35 = .ok (.bipush (-2), 2) := by decide +kernel
theorem dX8_lots_37 : decode cX8_lots 37 = .ok (.invokevirtual 87, 3) := by decide +kernel
theorem dX8_lots_40 : decode cX8_lots 40 = .ok (.ireturn, 1) := by decide +kernel
theorem dX8_lots_41 : decode cX8_lots 41 = .ok (.aload_n 0, 1) := by decide +kernel
theorem dX8_lots_42 : decode cX8_lots 42 = .ok (.iload_n 2, 1) := by decide +kernel
theorem dX8_lots_43 : decode cX8_lots 43 = .ok (.putfield 195, 3) := by decide +kernel
theorem dX8_lots_46 : decode cX8_lots 46 = .ok (.iconst 0, 1) := by decide +kernel
theorem dX8_lots_47 : decode cX8_lots 47 = .ok (.istore 4, 2) := by decide +kernel
theorem dX8_lots_49 : decode cX8_lots 49 = .ok (.iconst 0, 1) := by decide +kernel
theorem dX8_lots_50 : decode cX8_lots 50 = .ok (.istore 5, 2) := by decide +kernel
theorem dX8_lots_52 : decode cX8_lots 52 = .ok (.iconst 0, 1) := by decide +kernel
theorem dX8_lots_53 : decode cX8_lots 53 = .ok (.istore 6, 2) := by decide +kernel
theorem dX8_lots_55 : decode cX8_lots 55 = .ok (.iload 6, 2) := by decide +kernel
theorem dX8_lots_57 : decode cX8_lots 57 = .ok (.iload_n 1, 1) := by decide +kernel
theorem dX8_lots_58 : decode cX8_lots 58 = .ok (.if_icmp .ge 119, 3) := by decide +kernel
theorem dX8_lots_61 : decode cX8_lots 61 = .ok (.aload_n 0, 1) := by decide +kernel
theorem dX8_lots_62 : decode cX8_lots 62 = .ok (.getfield 9, 3) := by decide +kernel
theorem dX8_lots_65 : decode cX8_lots 65 = .ok (.bipush 36, 2) := by decide +kernel
theorem dX8_lots_67 : decode cX8_lots 67 = .ok (.iaload, 1) := by decide +kernel
theorem dX8_lots_68 : decode cX8_lots 68 = .ok (.istore 7, 2) := by decide +kernel
theorem dX8_lots_70 : decode cX8_lots 70 = .ok (.iconst 4, 1) := by decide +kernel
theorem dX8_lots_71 : decode cX8_lots 71 = .ok (.istore 8, 2) := by decide +kernel
theorem dX8_lots_73 : decode cX8_lots 73 = .ok (.iconst 0, 1) := by decide +kernel
theorem dX8_lots_74 : decode cX8_lots 74 = .ok (.istore 9, 2) := by decide +kernel
theorem dX8_lots_76 : decode cX8_lots 76 = .ok (.iload 9, 2) := by decide +kernel
theorem dX8_lots_78 : decode cX8_lots 78 = .ok (.bipush 20, 2) := by decide +kernel
theorem dX8_lots_80 : decode cX8_lots 80 = .ok (.if_icmp .ge 80, 3) := by decide +kernel
theorem dX8_lots_83 : decode cX8_lots 83 = .ok (.aload_n 0, 1) := by decide +kernel
theorem dX8_lots_84 : decode cX8_lots 84 = .ok (.iconst 4, 1) := by decide +kernel
theorem dX8_lots_85 : decode cX8_lots 85 = .ok (.invokevirtual 201, 3) := by decide +kernel
theorem dX8_lots_88 : decode cX8_lots 88 = .ok (.istore 10, 2) := by decide +kernel
theorem dX8_lots_90 : decode cX8_lots 90 = .ok (.aload_n 0, 1) := by decide +kernel
theorem dX8_lots_91 : decode cX8_lots 91 = .ok (.iload 7, 2) := by decide +kernel
theorem dX8_lots_93 : decode cX8_lots 93 = .ok (.iload 10, 2) := by decide +kernel
theorem dX8_lots_95 : decode cX8_lots 95 = .ok (.invokevirtual 128, 3) := by decide +kernel
theorem dX8_lots_98 : decode cX8_lots 98 = .ok (.istore 11, 2) := by decide +kernel
theorem dX8_lots_100 : decode cX8_lots 100 = .ok (.iload 11, 2) := by decide +kernel
theorem dX8_lots_102 : decode cX8_lots 102 = .ok (.ifCond .ge 6, 3) := by decide +kernel
theorem dX8_lots_105 : decode cX8_lots 105 = .ok (.goto 49, 3) := by decide +kernel
theorem dX8_lots_108 : decode cX8_lots 108 = .ok (.iload 4, 2) := by decide +kernel
theorem dX8_lots_110 : decode cX8_lots 110 = .ok (.aload_n 0, 1) := by decide +kernel
theorem dX8_lots_111 : decode cX8_lots 111 = .ok (.iload 7, 2) := by decide +kernel
theorem dX8_lots_113 : decode cX8_lots 113 = .ok (.iload 8, 2) := by decide +kernel
theorem dX8_lots_115 : decode cX8_lots 115 = .ok (.iload 10, 2) := by decide +kernel
theorem dX8_lots_117 : decode cX8_lots 117 = .ok (.invokevirtual 148, 3) := by decide +kernel
theorem dX8_lots_120 : decode cX8_lots 120 = .ok (.iadd, 1) := by decide +kernel
theorem dX8_lots_121 : decode cX8_lots 121 = .ok (.istore 4, 2) := by decide +kernel
theorem dX8_lots_123 : decode cX8_lots 123 = .ok (.iload 5, 2) := by decide +kernel
theorem dX8_lots_125 : decode cX8_lots 125 = .ok (.aload_n 0, 1) := by decide +kernel
theorem dX8_lots_126 : decode cX8_lots 126 = .ok (.iload 7, 2) := by decide +kernel
theorem dX8_lots_128 : decode cX8_lots 128 = .ok (.iload 8, 2) := by decide +kernel
theorem dX8_lots_130 : decode cX8_lots 130 = .ok (.iload 10, 2) := by decide +kernel
theorem dX8_lots_132 : decode cX8_lots 132 = .ok (.invokevirtual 81, 3) := by decide +kernel
theorem dX8_lots_135 : decode cX8_lots 135 = .ok (.ifCond .eq 7, 3) := by decide +kernel
theorem dX8_lots_138 : decode cX8_lots 138 = .ok (.iconst 1, 1) := by decide +kernel
theorem dX8_lots_139 : decode cX8_lots 139 = .ok (.goto 4, 3) := by decide +kernel
theorem dX8_lots_142 : decode cX8_lots 142 = .ok (.iconst 0, 1) := by decide +kernel
theorem dX8_lots_143 : decode cX8_lots 143 = .ok (.iadd, 1) := by decide +kernel
theorem dX8_lots_144 : decode cX8_lots 144 = .ok (.istore 5, 2) := by decide +kernel
theorem dX8_lots_146 : decode cX8_lots 146 = .ok (.iload 11, 2) := by decide +kernel
theorem dX8_lots_148 : decode cX8_lots 148 = .ok (.istore 7, 2) := by decide +kernel
theorem dX8_lots_150 : decode cX8_lots 150 = .ok (.iload 10, 2) := by decide +kernel
theorem dX8_lots_152 : decode cX8_lots 152 = .ok (.istore 8, 2) := by decide +kernel
theorem dX8_lots_154 : decode cX8_lots 154 = .ok (.iinc 9 1, 3) := by decide +kernel
theorem dX8_lots_157 : decode cX8_lots 157 = .ok (.goto (-81), 3) := by decide +kernel
theorem dX8_lots_160 : decode cX8_lots 160 = .ok (.iload 4, 2) := by decide +kernel
theorem dX8_lots_162 : decode cX8_lots 162 = .ok (.aload_n 0, 1) := by decide +kernel
theorem dX8_lots_163 : decode cX8_lots 163 = .ok (.iload 7, 2) := by decide +kernel
theorem dX8_lots_165 : decode cX8_lots 165 = .ok (.invokevirtual 84, 3) := by decide +kernel
theorem dX8_lots_168 : decode cX8_lots 168 = .ok (.iadd, 1) := by decide +kernel
theorem dX8_lots_169 : decode cX8_lots 169 = .ok (.istore 4, 2) := by decide +kernel
theorem dX8_lots_171 : decode cX8_lots 171 = .ok (.iinc 6 1, 3) := by decide +kernel
theorem dX8_lots_174 : decode cX8_lots 174 = .ok (.goto (-119), 3) := by decide +kernel
theorem dX8_lots_177 : decode cX8_lots 177 = .ok (.iload_n 3, 1) := by decide +kernel
theorem dX8_lots_178 : decode cX8_lots 178 = .ok (.ifCond .ne 8, 3) := by decide +kernel
theorem dX8_lots_181 : decode cX8_lots 181 = .ok (.iload 4, 2) := by decide +kernel
theorem dX8_lots_183 : decode cX8_lots 183 = .ok (.goto 5, 3) := by decide +kernel
theorem dX8_lots_186 : decode cX8_lots 186 = .ok (.iload 5, 2) := by decide +kernel
theorem dX8_lots_188 : decode cX8_lots 188 = .ok (.ireturn, 1) := by decide +kernel
set_option maxRecDepth 20000 in
theorem ggX8_image_X8_lays : GoodIn wsX8_image wsX8_lays := goodIn_r _ [7] (by decide +kernel) (by decide +kernel)
set_option maxRecDepth 20000 in
theorem gX8_image_X8_lays : GoodIn wsX8_image (va_wsS RX8 115 yX8_lays wsX8_lays) := goodIn_app (goodIn_of _ (by decide +kernel)) ggX8_image_X8_lays
theorem dX8_image_0 : decode cX8_image 0 = .ok (.aload_n 0, 1) := by decide +kernel
theorem dX8_image_1 : decode cX8_image 1 = .ok (.getfield 9, 3) := by decide +kernel
theorem dX8_image_4 : decode cX8_image 4 = .ok (.aload_n 0, 1) := by decide +kernel
theorem dX8_image_5 : decode cX8_image 5 = .ok (.getfield 13, 3) := by decide +kernel
theorem dX8_image_8 : decode cX8_image 8 = .ok (.invokestatic 115, 3) := by decide +kernel
theorem dX8_image_11 : decode cX8_image 11 = .ok (.aload_n 0, 1) := by decide +kernel
theorem dX8_image_12 : decode cX8_image 12 = .ok (.iconst 1, 1) := by decide +kernel
theorem dX8_image_13 : decode cX8_image 13 = .ok (.putfield 204, 3) := by decide +kernel
theorem dX8_image_16 : decode cX8_image 16 = .ok (.aload_n 0, 1) := by decide +kernel
theorem dX8_image_17 : decode cX8_image 17 = .ok (.getfield 9, 3) := by decide +kernel
theorem dX8_image_20 : decode cX8_image 20 = .ok (.bipush 36, 2) := by decide +kernel
theorem dX8_image_22 : decode cX8_image 22 = .ok (.iaload, 1) := by decide +kernel
theorem dX8_image_23 : decode cX8_image 23 = .ok (.ireturn, 1) := by decide +kernel
set_option maxRecDepth 20000 in
theorem ggX8_on_X8_no : GoodIn wsX8_on wsX8_no := goodIn_r _ [8, 9, 13, 14, 15, 16, 17, 18, 19, 20, 21, 22, 23, 24, 25, 26, 27, 28, 29, 30, 31] (by decide +kernel) (by decide +kernel)
set_option maxRecDepth 20000 in
theorem gX8_on_X8_no : GoodIn wsX8_on (wsV RX8 87 RX8 yX8_no wsX8_no) := goodIn_app (goodIn_of _ (by decide +kernel)) ggX8_on_X8_no
set_option maxRecDepth 20000 in
theorem ggX8_on_X8_lays : GoodIn wsX8_on wsX8_lays := goodIn_r _ [12] (by decide +kernel) (by decide +kernel)
set_option maxRecDepth 20000 in
theorem gX8_on_X8_lays : GoodIn wsX8_on (va_wsS RX8 115 yX8_lays wsX8_lays) := goodIn_app (goodIn_of _ (by decide +kernel)) ggX8_on_X8_lays
theorem dX8_on_0 : decode cX8_on 0 = .ok (.aload_n 0, 1) := by decide +kernel
theorem dX8_on_1 : decode cX8_on 1 = .ok (.getfield 204, 3) := by decide +kernel
theorem dX8_on_4 : decode cX8_on 4 = .ok (.ifCond .ne 10, 3) := by decide +kernel
theorem dX8_on_7 : decode cX8_on 7 = .ok (.aload_n 0, 1) := by decide +kernel
theorem dX8_on_8 : decode cX8_on 8 = .ok (.bipush (-3), 2) := by decide +kernel
theorem dX8_on_10 : decode cX8_on 10 = .ok (.invokevirtual 87, 3) := by decide +kernel
theorem dX8_on_13 : decode cX8_on 13 = .ok (.ireturn, 1) := by decide +kernel
theorem dX8_on_14 : decode cX8_on 14 = .ok (.aload_n 0, 1) := by decide +kernel
theorem dX8_on_15 : decode cX8_on 15 = .ok (.getfield 13, 3) := by decide +kernel
theorem dX8_on_18 : decode cX8_on 18 = .ok (.aload_n 0, 1) := by decide +kernel
theorem dX8_on_19 : decode cX8_on 19 = .ok (.getfield 9, 3) := by decide +kernel
theorem dX8_on_22 : decode cX8_on 22 = .ok (.invokestatic 115, 3) := by decide +kernel
theorem dX8_on_25 : decode cX8_on 25 = .ok (.aload_n 0, 1) := by decide +kernel
theorem dX8_on_26 : decode cX8_on 26 = .ok (.getfield 9, 3) := by decide +kernel
theorem dX8_on_29 : decode cX8_on 29 = .ok (.bipush 36, 2) := by decide +kernel
theorem dX8_on_31 : decode cX8_on 31 = .ok (.iaload, 1) := by decide +kernel
theorem dX8_on_32 : decode cX8_on 32 = .ok (.ireturn, 1) := by decide +kernel
set_option maxRecDepth 20000 in
theorem ggX8_manyOf_X8_canBe : GoodIn wsX8_manyOf wsX8_canBe := goodIn_r _ [6, 1, 7, 8, 5, 9, 17, 18, 19, 20, 21, 22, 23, 24, 25, 26, 27, 28, 29, 30, 31, 32, 33, 34, 35] (by decide +kernel) (by decide +kernel)
set_option maxRecDepth 20000 in
theorem gX8_manyOf_X8_canBe : GoodIn wsX8_manyOf (wsV RX8 75 RX8 yX8_canBe wsX8_canBe) := goodIn_app (goodIn_of _ (by decide +kernel)) ggX8_manyOf_X8_canBe
set_option maxRecDepth 20000 in
theorem ggX8_manyOf_X8_hears : GoodIn wsX8_manyOf wsX8_hears := goodIn_r _ [12] (by decide +kernel) (by decide +kernel)
set_option maxRecDepth 20000 in
theorem gX8_manyOf_X8_hears : GoodIn wsX8_manyOf (va_wsS RX8 65 yX8_hears wsX8_hears) := goodIn_app (goodIn_of _ (by decide +kernel)) ggX8_manyOf_X8_hears
set_option maxRecDepth 20000 in
theorem ggX8_manyOf_X8_isTurned : GoodIn wsX8_manyOf wsX8_isTurned := goodIn_r _ [16, 1, 17, 18, 19, 20, 21, 22, 23, 24, 25, 26, 27, 28, 29, 30, 31, 32, 33, 34, 35] (by decide +kernel) (by decide +kernel)
set_option maxRecDepth 20000 in
theorem gX8_manyOf_X8_isTurned : GoodIn wsX8_manyOf (wsV RX8 78 RX8 yX8_isTurned wsX8_isTurned) := goodIn_app (goodIn_of _ (by decide +kernel)) ggX8_manyOf_X8_isTurned
theorem dX8_manyOf_0 : decode cX8_manyOf 0 = .ok (.iconst 0, 1) := by decide +kernel
theorem dX8_manyOf_1 : decode cX8_manyOf 1 = .ok (.istore_n 2, 1) := by decide +kernel
theorem dX8_manyOf_2 : decode cX8_manyOf 2 = .ok (.iconst 0, 1) := by decide +kernel
theorem dX8_manyOf_3 : decode cX8_manyOf 3 = .ok (.istore_n 3, 1) := by decide +kernel
theorem dX8_manyOf_4 : decode cX8_manyOf 4 = .ok (.iload_n 3, 1) := by decide +kernel
theorem dX8_manyOf_5 : decode cX8_manyOf 5 = .ok (.bipush 36, 2) := by decide +kernel
theorem dX8_manyOf_7 : decode cX8_manyOf 7 = .ok (.if_icmp .ge 75, 3) := by decide +kernel
theorem dX8_manyOf_10 : decode cX8_manyOf 10 = .ok (.iload_n 1, 1) := by decide +kernel
theorem dX8_manyOf_11 : decode cX8_manyOf 11 = .ok (.iconst 3, 1) := by decide +kernel
theorem dX8_manyOf_12 : decode cX8_manyOf 12 = .ok (.if_icmp .ne 11, 3) := by decide +kernel
theorem dX8_manyOf_15 : decode cX8_manyOf 15 = .ok (.aload_n 0, 1) := by decide +kernel
theorem dX8_manyOf_16 : decode cX8_manyOf 16 = .ok (.iload_n 3, 1) := by decide +kernel
theorem dX8_manyOf_17 : decode cX8_manyOf 17 = .ok (.invokevirtual 75, 3) := by decide +kernel
theorem dX8_manyOf_20 : decode cX8_manyOf 20 = .ok (.goto 41, 3) := by decide +kernel
theorem dX8_manyOf_23 : decode cX8_manyOf 23 = .ok (.iload_n 1, 1) := by decide +kernel
theorem dX8_manyOf_24 : decode cX8_manyOf 24 = .ok (.iconst 4, 1) := by decide +kernel
theorem dX8_manyOf_25 : decode cX8_manyOf 25 = .ok (.if_icmp .ne 23, 3) := by decide +kernel
theorem dX8_manyOf_28 : decode cX8_manyOf 28 = .ok (.aload_n 0, 1) := by decide +kernel
theorem dX8_manyOf_29 : decode cX8_manyOf 29 = .ok (.getfield 9, 3) := by decide +kernel
theorem dX8_manyOf_32 : decode cX8_manyOf 32 = .ok (.iload_n 3, 1) := by decide +kernel
theorem dX8_manyOf_33 : decode cX8_manyOf 33 = .ok (.iaload, 1) := by decide +kernel
theorem dX8_manyOf_34 : decode cX8_manyOf 34 = .ok (.invokestatic 65, 3) := by decide +kernel
theorem dX8_manyOf_37 : decode cX8_manyOf 37 = .ok (.ifCond .lt 7, 3) := by decide +kernel
theorem dX8_manyOf_40 : decode cX8_manyOf 40 = .ok (.iconst 1, 1) := by decide +kernel
theorem dX8_manyOf_41 : decode cX8_manyOf 41 = .ok (.goto 20, 3) := by decide +kernel
theorem dX8_manyOf_44 : decode cX8_manyOf 44 = .ok (.iconst 0, 1) := by decide +kernel
theorem dX8_manyOf_45 : decode cX8_manyOf 45 = .ok (.goto 16, 3) := by decide +kernel
theorem dX8_manyOf_48 : decode cX8_manyOf 48 = .ok (.aload_n 0, 1) := by decide +kernel
theorem dX8_manyOf_49 : decode cX8_manyOf 49 = .ok (.iload_n 3, 1) := by decide +kernel
theorem dX8_manyOf_50 : decode cX8_manyOf 50 = .ok (.invokevirtual 78, 3) := by decide +kernel
theorem dX8_manyOf_53 : decode cX8_manyOf 53 = .ok (.ifCond .ne 7, 3) := by decide +kernel
theorem dX8_manyOf_56 : decode cX8_manyOf 56 = .ok (.iconst 1, 1) := by decide +kernel
theorem dX8_manyOf_57 : decode cX8_manyOf 57 = .ok (.goto 4, 3) := by decide +kernel
theorem dX8_manyOf_60 : decode cX8_manyOf 60 = .ok (.iconst 0, 1) := by decide +kernel
theorem dX8_manyOf_61 : decode cX8_manyOf 61 = .ok (.istore 4, 2) := by decide +kernel
theorem dX8_manyOf_63 : decode cX8_manyOf 63 = .ok (.iload_n 2, 1) := by decide +kernel
theorem dX8_manyOf_64 : decode cX8_manyOf 64 = .ok (.iload 4, 2) := by decide +kernel
theorem dX8_manyOf_66 : decode cX8_manyOf 66 = .ok (.ifCond .eq 7, 3) := by decide +kernel
theorem dX8_manyOf_69 : decode cX8_manyOf 69 = .ok (.iconst 1, 1) := by decide +kernel
theorem dX8_manyOf_70 : decode cX8_manyOf 70 = .ok (.goto 4, 3) := by decide +kernel
theorem dX8_manyOf_73 : decode cX8_manyOf 73 = .ok (.iconst 0, 1) := by decide +kernel
theorem dX8_manyOf_74 : decode cX8_manyOf 74 = .ok (.iadd, 1) := by decide +kernel
theorem dX8_manyOf_75 : decode cX8_manyOf 75 = .ok (.istore_n 2, 1) := by decide +kernel
theorem dX8_manyOf_76 : decode cX8_manyOf 76 = .ok (.iinc 3 1, 3) := by decide +kernel
theorem dX8_manyOf_79 : decode cX8_manyOf 79 = .ok (.goto (-75), 3) := by decide +kernel
theorem dX8_manyOf_82 : decode cX8_manyOf 82 = .ok (.iload_n 2, 1) := by decide +kernel
theorem dX8_manyOf_83 : decode cX8_manyOf 83 = .ok (.ireturn, 1) := by decide +kernel
set_option maxRecDepth 20000 in
theorem ggX8_count_X8_isIn : GoodIn wsX8_count wsX8_isIn := goodIn_r _ [8] (by decide +kernel) (by decide +kernel)
set_option maxRecDepth 20000 in
theorem gX8_count_X8_isIn : GoodIn wsX8_count (va_wsS RX8 53 yX8_isIn wsX8_isIn) := goodIn_app (goodIn_of _ (by decide +kernel)) ggX8_count_X8_isIn
set_option maxRecDepth 20000 in
theorem ggX8_count_X8_manyOf : GoodIn wsX8_count wsX8_manyOf := goodIn_r _ [12, 2, 13, 14, 15, 7, 16, 17, 18, 19, 20, 21, 22, 23, 24, 25, 26, 45, 46, 47, 48, 49, 50, 51, 52, 53, 54, 55, 56, 57, 58, 59, 60, 61, 62, 63] (by decide +kernel) (by decide +kernel)
set_option maxRecDepth 20000 in
theorem gX8_count_X8_manyOf : GoodIn wsX8_count (wsV RX8 208 RX8 yX8_manyOf wsX8_manyOf) := goodIn_app (goodIn_of _ (by decide +kernel)) ggX8_count_X8_manyOf
set_option maxRecDepth 20000 in
theorem ggX8_count_X8_heardMany : GoodIn wsX8_count wsX8_heardMany := goodIn_r _ [30, 31, 32, 33, 7, 34, 35, 36, 37, 38, 2, 20, 21, 22, 39, 40, 41, 42, 43, 44, 45, 46, 47, 48, 49, 50, 51, 52, 53, 54, 55, 56, 57, 58, 59, 60, 61, 62, 63] (by decide +kernel) (by decide +kernel)
set_option maxRecDepth 20000 in
theorem gX8_count_X8_heardMany : GoodIn wsX8_count (wsV RX8 211 RX8 yX8_heardMany wsX8_heardMany) := goodIn_app (goodIn_of _ (by decide +kernel)) ggX8_count_X8_heardMany
theorem dX8_count_0 : decode cX8_count 0 = .ok (.iload_n 1, 1) := by decide +kernel
theorem dX8_count_1 : decode cX8_count 1 = .ok (.bipush 11, 2) := by decide +kernel
theorem dX8_count_3 : decode cX8_count 3 = .ok (.bipush 16, 2) := by decide +kernel
theorem dX8_count_5 : decode cX8_count 5 = .ok (.invokestatic 53, 3) := by decide +kernel
theorem dX8_count_8 : decode cX8_count 8 = .ok (.ifCond .eq 13, 3) := by decide +kernel
theorem dX8_count_11 : decode cX8_count 11 = .ok (.aload_n 0, 1) := by decide +kernel
theorem dX8_count_12 : decode cX8_count 12 = .ok (.getfield 25, 3) := by decide +kernel
theorem dX8_count_15 : decode cX8_count 15 = .ok (.iload_n 1, 1) := by decide +kernel
theorem dX8_count_16 : decode cX8_count 16 = .ok (.bipush 10, 2) := by decide +kernel
theorem dX8_count_18 : decode cX8_count 18 = .ok (.isub, 1) := by decide +kernel
theorem dX8_count_19 : decode cX8_count 19 = .ok (.iaload, 1) := by decide +kernel
theorem dX8_count_20 : decode cX8_count 20 = .ok (.ireturn, 1) := by decide +kernel
theorem dX8_count_21 : decode cX8_count 21 = .ok (.iload_n 1, 1) := by decide +kernel
theorem dX8_count_22 : decode cX8_count 22 = .ok (.tableswitch 81 0 8 #[50, 50, 50, 60, 60, 66, 60, 71, 76], 50) := by decide +kernel
theorem dX8_count_72 : decode cX8_count 72 = .ok (.aload_n 0, 1) := by decide +kernel
theorem dX8_count_73 : decode cX8_count 73 = .ok (.getfield 9, 3) := by decide +kernel
theorem dX8_count_76 : decode cX8_count 76 = .ok (.bipush 36, 2) := by decide +kernel
theorem dX8_count_78 : decode cX8_count 78 = .ok (.iload_n 1, 1) := by decide +kernel
theorem dX8_count_79 : decode cX8_count 79 = .ok (.iadd, 1) := by decide +kernel
theorem dX8_count_80 : decode cX8_count 80 = .ok (.iaload, 1) := by decide +kernel
theorem dX8_count_81 : decode cX8_count 81 = .ok (.ireturn, 1) := by decide +kernel
theorem dX8_count_82 : decode cX8_count 82 = .ok (.aload_n 0, 1) := by decide +kernel
theorem dX8_count_83 : decode cX8_count 83 = .ok (.iload_n 1, 1) := by decide +kernel
theorem dX8_count_84 : decode cX8_count 84 = .ok (.invokevirtual 208, 3) := by decide +kernel
theorem dX8_count_87 : decode cX8_count 87 = .ok (.ireturn, 1) := by decide +kernel
theorem dX8_count_88 : decode cX8_count 88 = .ok (.aload_n 0, 1) := by decide +kernel
theorem dX8_count_89 : decode cX8_count 89 = .ok (.invokevirtual 211, 3) := by decide +kernel
theorem dX8_count_92 : decode cX8_count 92 = .ok (.ireturn, 1) := by decide +kernel
theorem dX8_count_93 : decode cX8_count 93 = .ok (.aload_n 0, 1) := by decide +kernel
theorem dX8_count_94 : decode cX8_count 94 = .ok (.getfield 125, 3) := by decide +kernel
theorem dX8_count_97 : decode cX8_count 97 = .ok (.ireturn, 1) := by decide +kernel
theorem dX8_count_98 : decode cX8_count 98 = .ok (.aload_n 0, 1) := by decide +kernel
theorem dX8_count_99 : decode cX8_count 99 = .ok (.getfield 90, 3) := by decide +kernel
theorem dX8_count_102 : decode cX8_count 102 = .ok (.ireturn, 1) := by decide +kernel
theorem dX8_count_103 : decode cX8_count 103 = .ok (.bipush (-9), 2) := by decide +kernel
theorem dX8_count_105 : decode cX8_count 105 = .ok (.ireturn, 1) := by decide +kernel
theorem dJ11_isValidCodePoint_9a6ad_0 : decode cJ11_isValidCodePoint_9a6ad 0 = .ok (.iload_n 0, 1) := by decide +kernel
theorem dJ11_isValidCodePoint_9a6ad_1 : decode cJ11_isValidCodePoint_9a6ad 1 = .ok (.bipush 16, 2) := by decide +kernel
theorem dJ11_isValidCodePoint_9a6ad_3 : decode cJ11_isValidCodePoint_9a6ad 3 = .ok (.iushr, 1) := by decide +kernel
theorem dJ11_isValidCodePoint_9a6ad_4 : decode cJ11_isValidCodePoint_9a6ad 4 = .ok (.istore_n 1, 1) := by decide +kernel
theorem dJ11_isValidCodePoint_9a6ad_5 : decode cJ11_isValidCodePoint_9a6ad 5 = .ok (.iload_n 1, 1) := by decide +kernel
theorem dJ11_isValidCodePoint_9a6ad_6 : decode cJ11_isValidCodePoint_9a6ad 6 = .ok (.bipush 17, 2) := by decide +kernel
theorem dJ11_isValidCodePoint_9a6ad_8 : decode cJ11_isValidCodePoint_9a6ad 8 = .ok (.if_icmp .ge 7, 3) := by decide +kernel
theorem dJ11_isValidCodePoint_9a6ad_11 : decode cJ11_isValidCodePoint_9a6ad 11 = .ok (.iconst 1, 1) := by decide +kernel
theorem dJ11_isValidCodePoint_9a6ad_12 : decode cJ11_isValidCodePoint_9a6ad 12 = .ok (.goto 4, 3) := by decide +kernel
theorem dJ11_isValidCodePoint_9a6ad_15 : decode cJ11_isValidCodePoint_9a6ad 15 = .ok (.iconst 0, 1) := by decide +kernel
theorem dJ11_isValidCodePoint_9a6ad_16 : decode cJ11_isValidCodePoint_9a6ad 16 = .ok (.ireturn, 1) := by decide +kernel
theorem dJ11_highSurrogate_5068e_0 : decode cJ11_highSurrogate_5068e 0 = .ok (.iload_n 0, 1) := by decide +kernel
theorem dJ11_highSurrogate_5068e_1 : decode cJ11_highSurrogate_5068e 1 = .ok (.bipush 10, 2) := by decide +kernel
theorem dJ11_highSurrogate_5068e_3 : decode cJ11_highSurrogate_5068e 3 = .ok (.iushr, 1) := by decide +kernel
theorem dJ11_highSurrogate_5068e_4 : decode cJ11_highSurrogate_5068e 4 = .ok (.ldc 110, 2) := by decide +kernel
theorem dJ11_highSurrogate_5068e_6 : decode cJ11_highSurrogate_5068e 6 = .ok (.iadd, 1) := by decide +kernel
theorem dJ11_highSurrogate_5068e_7 : decode cJ11_highSurrogate_5068e 7 = .ok (.i2c, 1) := by decide +kernel
theorem dJ11_highSurrogate_5068e_8 : decode cJ11_highSurrogate_5068e 8 = .ok (.ireturn, 1) := by decide +kernel
theorem dJ11_lowSurrogate_5068e_0 : decode cJ11_lowSurrogate_5068e 0 = .ok (.iload_n 0, 1) := by decide +kernel
theorem dJ11_lowSurrogate_5068e_1 : decode cJ11_lowSurrogate_5068e 1 = .ok (.sipush 1023, 3) := by decide +kernel
theorem dJ11_lowSurrogate_5068e_4 : decode cJ11_lowSurrogate_5068e 4 = .ok (.iand, 1) := by decide +kernel
theorem dJ11_lowSurrogate_5068e_5 : decode cJ11_lowSurrogate_5068e 5 = .ok (.ldc 76, 2) := by decide +kernel
theorem dJ11_lowSurrogate_5068e_7 : decode cJ11_lowSurrogate_5068e 7 = .ok (.iadd, 1) := by decide +kernel
theorem dJ11_lowSurrogate_5068e_8 : decode cJ11_lowSurrogate_5068e 8 = .ok (.i2c, 1) := by decide +kernel
theorem dJ11_lowSurrogate_5068e_9 : decode cJ11_lowSurrogate_5068e 9 = .ok (.ireturn, 1) := by decide +kernel
theorem dJ6_bitCount_0f7a4_0 : decode cJ6_bitCount_0f7a4 0 = .ok (.iload_n 0, 1) := by decide +kernel
theorem dJ6_bitCount_0f7a4_1 : decode cJ6_bitCount_0f7a4 1 = .ok (.iload_n 0, 1) := by decide +kernel
theorem dJ6_bitCount_0f7a4_2 : decode cJ6_bitCount_0f7a4 2 = .ok (.iconst 1, 1) := by decide +kernel
