set_option maxRecDepth 20000 in
theorem ggX8_init_X8_beside : GoodIn wsX8_init wsX8_beside := goodIn_r _ [29, 30, 31, 32, 28, 33] (by decide +kernel) (by decide +kernel)
set_option maxRecDepth 20000 in
theorem gX8_init_X8_beside : GoodIn wsX8_init (va_wsS RX8 69 yX8_beside wsX8_beside) := goodIn_app (goodIn_of _ (by decide +kernel)) ggX8_init_X8_beside
theorem dX8_init_0 : decode cX8_init 0 = .ok (.aload_n 0, 1) := by decide +kernel
theorem dX8_init_1 : decode cX8_init 1 = .ok (.invokespecial 1, 3) := by decide +kernel
theorem dX8_init_4 : decode cX8_init 4 = .ok (.aload_n 0, 1) := by decide +kernel
theorem dX8_init_5 : decode cX8_init 5 = .ok (.bipush 64, 2) := by decide +kernel
theorem dX8_init_7 : decode cX8_init 7 = .ok (.newarray .long, 2) := by decide +kernel
theorem dX8_init_9 : decode cX8_init 9 = .ok (.putfield 7, 3) := by decide +kernel
theorem dX8_init_12 : decode cX8_init 12 = .ok (.aload_n 0, 1) := by decide +kernel
theorem dX8_init_13 : decode cX8_init 13 = .ok (.sipush 512, 3) := by decide +kernel
theorem dX8_init_16 : decode cX8_init 16 = .ok (.newarray .int, 2) := by decide +kernel
theorem dX8_init_18 : decode cX8_init 18 = .ok (.putfield 13, 3) := by decide +kernel
theorem dX8_init_21 : decode cX8_init 21 = .ok (.aload_n 0, 1) := by decide +kernel
theorem dX8_init_22 : decode cX8_init 22 = .ok (.bipush 8, 2) := by decide +kernel
theorem dX8_init_24 : decode cX8_init 24 = .ok (.newarray .long, 2) := by decide +kernel
theorem dX8_init_26 : decode cX8_init 26 = .ok (.putfield 17, 3) := by decide +kernel
theorem dX8_init_29 : decode cX8_init 29 = .ok (.aload_n 0, 1) := by decide +kernel
theorem dX8_init_30 : decode cX8_init 30 = .ok (.bipush 16, 2) := by decide +kernel
theorem dX8_init_32 : decode cX8_init 32 = .ok (.newarray .int, 2) := by decide +kernel
theorem dX8_init_34 : decode cX8_init 34 = .ok (.putfield 20, 3) := by decide +kernel
theorem dX8_init_37 : decode cX8_init 37 = .ok (.aload_n 0, 1) := by decide +kernel
theorem dX8_init_38 : decode cX8_init 38 = .ok (.bipush 8, 2) := by decide +kernel
theorem dX8_init_40 : decode cX8_init 40 = .ok (.newarray .boolean, 2) := by decide +kernel
theorem dX8_init_42 : decode cX8_init 42 = .ok (.putfield 23, 3) := by decide +kernel
theorem dX8_init_45 : decode cX8_init 45 = .ok (.aload_n 0, 1) := by decide +kernel
theorem dX8_init_46 : decode cX8_init 46 = .ok (.bipush 9, 2) := by decide +kernel
theorem dX8_init_48 : decode cX8_init 48 = .ok (.newarray .int, 2) := by decide +kernel
theorem dX8_init_50 : decode cX8_init 50 = .ok (.putfield 27, 3) := by decide +kernel
theorem dX8_init_53 : decode cX8_init 53 = .ok (.aload_n 0, 1) := by decide +kernel
theorem dX8_init_54 : decode cX8_init 54 = .ok (.sipush 400, 3) := by decide +kernel
theorem dX8_init_57 : decode cX8_init 57 = .ok (.newarray .long, 2) := by decide +kernel
theorem dX8_init_59 : decode cX8_init 59 = .ok (.putfield 30, 3) := by decide +kernel
theorem dX8_init_62 : decode cX8_init 62 = .ok (.aload_n 0, 1) := by decide +kernel
theorem dX8_init_63 : decode cX8_init 63 = .ok (.iconst 4, 1) := by decide +kernel
theorem dX8_init_64 : decode cX8_init 64 = .ok (.newarray .long, 2) := by decide +kernel
theorem dX8_init_66 : decode cX8_init 66 = .ok (.putfield 33, 3) := by decide +kernel
theorem dX8_init_69 : decode cX8_init 69 = .ok (.aload_n 0, 1) := by decide +kernel
theorem dX8_init_70 : decode cX8_init 70 = .ok (.iconst 4, 1) := by decide +kernel
theorem dX8_init_71 : decode cX8_init 71 = .ok (.newarray .boolean, 2) := by decide +kernel
theorem dX8_init_73 : decode cX8_init 73 = .ok (.putfield 36, 3) := by decide +kernel
theorem dX8_init_76 : decode cX8_init 76 = .ok (.aload_n 0, 1) := by decide +kernel
theorem dX8_init_77 : decode cX8_init 77 = .ok (.sipush 1600, 3) := by decide +kernel
theorem dX8_init_80 : decode cX8_init 80 = .ok (.newarray .long, 2) := by decide +kernel
theorem dX8_init_82 : decode cX8_init 82 = .ok (.putfield 39, 3) := by decide +kernel
theorem dX8_init_85 : decode cX8_init 85 = .ok (.aload_n 0, 1) := by decide +kernel
theorem dX8_init_86 : decode cX8_init 86 = .ok (.iconst 4, 1) := by decide +kernel
theorem dX8_init_87 : decode cX8_init 87 = .ok (.newarray .int, 2) := by decide +kernel
theorem dX8_init_89 : decode cX8_init 89 = .ok (.putfield 42, 3) := by decide +kernel
theorem dX8_init_92 : decode cX8_init 92 = .ok (.aload_n 0, 1) := by decide +kernel
theorem dX8_init_93 : decode cX8_init 93 = .ok (.iconst 4, 1) := by decide +kernel
theorem dX8_init_94 : decode cX8_init 94 = .ok (.newarray .int, 2) := by decide +kernel
theorem dX8_init_96 : decode cX8_init 96 = .ok (.putfield 45, 3) := by decide +kernel
theorem dX8_init_99 : decode cX8_init 99 = .ok (.aload_n 0, 1) := by decide +kernel
theorem dX8_init_100 : decode cX8_init 100 = .ok (.iconst 4, 1) := by decide +kernel
theorem dX8_init_101 : decode cX8_init 101 = .ok (.newarray .long, 2) := by decide +kernel
theorem dX8_init_103 : decode cX8_init 103 = .ok (.putfield 48, 3) := by decide +kernel
theorem dX8_init_106 : decode cX8_init 106 = .ok (.aload_n 0, 1) := by decide +kernel
theorem dX8_init_107 : decode cX8_init 107 = .ok (.bipush 64, 2) := by decide +kernel
theorem dX8_init_109 : decode cX8_init 109 = .ok (.newarray .long, 2) := by decide +kernel
theorem dX8_init_111 : decode cX8_init 111 = .ok (.putfield 51, 3) := by decide +kernel
theorem dX8_init_114 : decode cX8_init 114 = .ok (.aload_n 0, 1) := by decide +kernel
theorem dX8_init_115 : decode cX8_init 115 = .ok (.iconst 2, 1) := by decide +kernel
theorem dX8_init_116 : decode cX8_init 116 = .ok (.newarray .boolean, 2) := by decide +kernel
theorem dX8_init_118 : decode cX8_init 118 = .ok (.putfield 54, 3) := by decide +kernel
theorem dX8_init_121 : decode cX8_init 121 = .ok (.aload_n 0, 1) := by decide +kernel
theorem dX8_init_122 : decode cX8_init 122 = .ok (.bipush 16, 2) := by decide +kernel
theorem dX8_init_124 : decode cX8_init 124 = .ok (.newarray .long, 2) := by decide +kernel
theorem dX8_init_126 : decode cX8_init 126 = .ok (.putfield 57, 3) := by decide +kernel
theorem dX8_init_129 : decode cX8_init 129 = .ok (.aload_n 0, 1) := by decide +kernel
theorem dX8_init_130 : decode cX8_init 130 = .ok (.iconst 2, 1) := by decide +kernel
theorem dX8_init_131 : decode cX8_init 131 = .ok (.newarray .int, 2) := by decide +kernel
theorem dX8_init_133 : decode cX8_init 133 = .ok (.putfield 60, 3) := by decide +kernel
theorem dX8_init_136 : decode cX8_init 136 = .ok (.aload_n 0, 1) := by decide +kernel
theorem dX8_init_137 : decode cX8_init 137 = .ok (.bipush 8, 2) := by decide +kernel
theorem dX8_init_139 : decode cX8_init 139 = .ok (.newarray .long, 2) := by decide +kernel
theorem dX8_init_141 : decode cX8_init 141 = .ok (.putfield 63, 3) := by decide +kernel
theorem dX8_init_144 : decode cX8_init 144 = .ok (.aload_n 0, 1) := by decide +kernel
theorem dX8_init_145 : decode cX8_init 145 = .ok (.bipush 8, 2) := by decide +kernel
theorem dX8_init_147 : decode cX8_init 147 = .ok (.newarray .boolean, 2) := by decide +kernel
theorem dX8_init_149 : decode cX8_init 149 = .ok (.putfield 66, 3) := by decide +kernel
theorem dX8_init_152 : decode cX8_init 152 = .ok (.iconst 0, 1) := by decide +kernel
theorem dX8_init_153 : decode cX8_init 153 = .ok (.istore_n 1, 1) := by decide +kernel
theorem dX8_init_154 : decode cX8_init 154 = .ok (.iload_n 1, 1) := by decide +kernel
theorem dX8_init_155 : decode cX8_init 155 = .ok (.bipush 64, 2) := by decide +kernel
theorem dX8_init_157 : decode cX8_init 157 = .ok (.if_icmp .ge 211, 3) := by decide +kernel
theorem dX8_init_160 : decode cX8_init 160 = .ok (.iload_n 1, 1) := by decide +kernel
theorem dX8_init_161 : decode cX8_init 161 = .ok (.bipush 16, 2) := by decide +kernel
theorem dX8_init_163 : decode cX8_init 163 = .ok (.idiv, 1) := by decide +kernel
theorem dX8_init_164 : decode cX8_init 164 = .ok (.istore_n 2, 1) := by decide +kernel
theorem dX8_init_165 : decode cX8_init 165 = .ok (.iload_n 1, 1) := by decide +kernel
theorem dX8_init_166 : decode cX8_init 166 = .ok (.iconst 4, 1) := by decide +kernel
theorem dX8_init_167 : decode cX8_init 167 = .ok (.idiv, 1) := by decide +kernel
theorem dX8_init_168 : decode cX8_init 168 = .ok (.iconst 4, 1) := by decide +kernel
theorem dX8_init_169 : decode cX8_init 169 = .ok (.irem, 1) := by decide +kernel
theorem dX8_init_170 : decode cX8_init 170 = .ok (.istore_n 3, 1) := by decide +kernel
theorem dX8_init_171 : decode cX8_init 171 = .ok (.iload_n 1, 1) := by decide +kernel
theorem dX8_init_172 : decode cX8_init 172 = .ok (.iconst 4, 1) := by decide +kernel
theorem dX8_init_173 : decode cX8_init 173 = .ok (.irem, 1) := by decide +kernel
theorem dX8_init_174 : decode cX8_init 174 = .ok (.istore 4, 2) := by decide +kernel
theorem dX8_init_176 : decode cX8_init 176 = .ok (.aload_n 0, 1) := by decide +kernel
theorem dX8_init_177 : decode cX8_init 177 = .ok (.getfield 7, 3) := by decide +kernel
theorem dX8_init_180 : decode cX8_init 180 = .ok (.iload_n 1, 1) := by decide +kernel
theorem dX8_init_181 : decode cX8_init 181 = .ok (.lconst 1, 1) := by decide +kernel
theorem dX8_init_182 : decode cX8_init 182 = .ok (.iload_n 1, 1) := by decide +kernel
theorem dX8_init_183 : decode cX8_init 183 = .ok (.iload 4, 2) := by decide +kernel
theorem dX8_init_185 : decode cX8_init 185 = .ok (.isub, 1) := by decide +kernel
theorem dX8_init_186 : decode cX8_init 186 = .ok (.iload 4, 2) := by decide +kernel
theorem dX8_init_188 : decode cX8_init 188 = .ok (.iconst 1, 1) := by decide +kernel
theorem dX8_init_189 : decode cX8_init 189 = .ok (.iadd, 1) := by decide +kernel
theorem dX8_init_190 : decode cX8_init 190 = .ok (.iconst 4, 1) := by decide +kernel
theorem dX8_init_191 : decode cX8_init 191 = .ok (.irem, 1) := by decide +kernel
theorem dX8_init_192 : decode cX8_init 192 = .ok (.iadd, 1) := by decide +kernel
theorem dX8_init_193 : decode cX8_init 193 = .ok (.lshl, 1) := by decide +kernel
theorem dX8_init_194 : decode cX8_init 194 = .ok (.lconst 1, 1) := by decide +kernel
theorem dX8_init_195 : decode cX8_init 195 = .ok (.iload_n 1, 1) := by decide +kernel
theorem dX8_init_196 : decode cX8_init 196 = .ok (.iload 4, 2) := by decide +kernel
theorem dX8_init_198 : decode cX8_init 198 = .ok (.isub, 1) := by decide +kernel
theorem dX8_init_199 : decode cX8_init 199 = .ok (.iload 4, 2) := by decide +kernel
theorem dX8_init_201 : decode cX8_init 201 = .ok (.iconst 3, 1) := by decide +kernel
theorem dX8_init_202 : decode cX8_init 202 = .ok (.iadd, 1) := by decide +kernel
theorem dX8_init_203 : decode cX8_init 203 = .ok (.iconst 4, 1) := by decide +kernel
theorem dX8_init_204 : decode cX8_init 204 = .ok (.irem, 1) := by decide +kernel
theorem dX8_init_205 : decode cX8_init 205 = .ok (.iadd, 1) := by decide +kernel
theorem dX8_init_206 : decode cX8_init 206 = .ok (.lshl, 1) := by decide +kernel
theorem dX8_init_207 : decode cX8_init 207 = .ok (.lor, 1) := by decide +kernel
theorem dX8_init_208 : decode cX8_init 208 = .ok (.lastore, 1) := by decide +kernel
theorem dX8_init_209 : decode cX8_init 209 = .ok (.iload_n 1, 1) := by decide +kernel
theorem dX8_init_210 : decode cX8_init 210 = .ok (.invokestatic 69, 3) := by decide +kernel
theorem dX8_init_213 : decode cX8_init 213 = .ok (.istore 5, 2) := by decide +kernel
theorem dX8_init_215 : decode cX8_init 215 = .ok (.aload_n 0, 1) := by decide +kernel
theorem dX8_init_216 : decode cX8_init 216 = .ok (.getfield 7, 3) := by decide +kernel
theorem dX8_init_219 : decode cX8_init 219 = .ok (.iload_n 1, 1) := by decide +kernel
theorem dX8_init_220 : decode cX8_init 220 = .ok (.dup2, 1) := by decide +kernel
theorem dX8_init_221 : decode cX8_init 221 = .ok (.laload, 1) := by decide +kernel
theorem dX8_init_222 : decode cX8_init 222 = .ok (.iload 5, 2) := by decide +kernel
theorem dX8_init_224 : decode cX8_init 224 = .ok (.bipush (-9), 2) := by decide +kernel
theorem dX8_init_226 : decode cX8_init 226 = .ok (.if_icmp .ne 7, 3) := by decide +kernel
theorem dX8_init_229 : decode cX8_init 229 = .ok (.lconst 0, 1) := by decide +kernel
theorem dX8_init_230 : decode cX8_init 230 = .ok (.goto 7, 3) := by decide +kernel
theorem dX8_init_233 : decode cX8_init 233 = .ok (.lconst 1, 1) := by decide +kernel
theorem dX8_init_234 : decode cX8_init 234 = .ok (.iload 5, 2) := by decide +kernel
theorem dX8_init_236 : decode cX8_init 236 = .ok (.lshl, 1) := by decide +kernel
theorem dX8_init_237 : decode cX8_init 237 = .ok (.lor, 1) := by decide +kernel
theorem dX8_init_238 : decode cX8_init 238 = .ok (.lastore, 1) := by decide +kernel
theorem dX8_init_239 : decode cX8_init 239 = .ok (.iconst 0, 1) := by decide +kernel
theorem dX8_init_240 : decode cX8_init 240 = .ok (.istore 6, 2) := by decide +kernel
theorem dX8_init_242 : decode cX8_init 242 = .ok (.iload 6, 2) := by decide +kernel
theorem dX8_init_244 : decode cX8_init 244 = .ok (.bipush 8, 2) := by decide +kernel
theorem dX8_init_246 : decode cX8_init 246 = .ok (.if_icmp .ge 116, 3) := by decide +kernel
theorem dX8_init_249 : decode cX8_init 249 = .ok (.iload_n 2, 1) := by decide +kernel
theorem dX8_init_250 : decode cX8_init 250 = .ok (.istore 7, 2) := by decide +kernel
theorem dX8_init_252 : decode cX8_init 252 = .ok (.iload 6, 2) := by decide +kernel
theorem dX8_init_254 : decode cX8_init 254 = .ok (.iconst 4, 1) := by decide +kernel
theorem dX8_init_255 : decode cX8_init 255 = .ok (.if_icmp .ge 7, 3) := by decide +kernel
theorem dX8_init_258 : decode cX8_init 258 = .ok (.iload_n 3, 1) := by decide +kernel
theorem dX8_init_259 : decode cX8_init 259 = .ok (.goto 6, 3) := by decide +kernel
theorem dX8_init_262 : decode cX8_init 262 = .ok (.iconst 3, 1) := by decide +kernel
theorem dX8_init_263 : decode cX8_init 263 = .ok (.iload_n 3, 1) := by decide +kernel
theorem dX8_init_264 : decode cX8_init 264 = .ok (.isub, 1) := by decide +kernel
theorem dX8_init_265 : decode cX8_init 265 = .ok (.istore 8, 2) := by decide +kernel
theorem dX8_init_267 : decode cX8_init 267 = .ok (.iload 6, 2) := by decide +kernel
theorem dX8_init_269 : decode cX8_init 269 = .ok (.iconst 4, 1) := by decide +kernel
theorem dX8_init_270 : decode cX8_init 270 = .ok (.if_icmp .lt 10, 3) := by decide +kernel
theorem dX8_init_273 : decode cX8_init 273 = .ok (.iload 4, 2) := by decide +kernel
theorem dX8_init_275 : decode cX8_init 275 = .ok (.iconst 2, 1) := by decide +kernel
theorem dX8_init_276 : decode cX8_init 276 = .ok (.irem, 1) := by decide +kernel
theorem dX8_init_277 : decode cX8_init 277 = .ok (.ifCond .ne 8, 3) := by decide +kernel
theorem dX8_init_280 : decode cX8_init 280 = .ok (.iload 4, 2) := by decide +kernel
theorem dX8_init_282 : decode cX8_init 282 = .ok (.goto 7, 3) := by decide +kernel
theorem dX8_init_285 : decode cX8_init 285 = .ok (.iconst 4, 1) := by decide +kernel
theorem dX8_init_286 : decode cX8_init 286 = .ok (.iload 4, 2) := by decide +kernel
theorem dX8_init_288 : decode cX8_init 288 = .ok (.isub, 1) := by decide +kernel
theorem dX8_init_289 : decode cX8_init 289 = .ok (.istore 9, 2) := by decide +kernel
theorem dX8_init_291 : decode cX8_init 291 = .ok (.iconst 0, 1) := by decide +kernel
theorem dX8_init_292 : decode cX8_init 292 = .ok (.istore 10, 2) := by decide +kernel
theorem dX8_init_294 : decode cX8_init 294 = .ok (.iload 10, 2) := by decide +kernel
theorem dX8_init_296 : decode cX8_init 296 = .ok (.iload 6, 2) := by decide +kernel
theorem dX8_init_298 : decode cX8_init 298 = .ok (.iconst 4, 1) := by decide +kernel
theorem dX8_init_299 : decode cX8_init 299 = .ok (.irem, 1) := by decide +kernel
theorem dX8_init_300 : decode cX8_init 300 = .ok (.if_icmp .ge 31, 3) := by decide +kernel
theorem dX8_init_303 : decode cX8_init 303 = .ok (.iload 7, 2) := by decide +kernel
theorem dX8_init_305 : decode cX8_init 305 = .ok (.istore 11, 2) := by decide +kernel
theorem dX8_init_307 : decode cX8_init 307 = .ok (.iload 8, 2) := by decide +kernel
theorem dX8_init_309 : decode cX8_init 309 = .ok (.istore 7, 2) := by decide +kernel
theorem dX8_init_311 : decode cX8_init 311 = .ok (.iconst 3, 1) := by decide +kernel
theorem dX8_init_312 : decode cX8_init 312 = .ok (.iload 11, 2) := by decide +kernel
theorem dX8_init_314 : decode cX8_init 314 = .ok (.isub, 1) := by decide +kernel
theorem dX8_init_315 : decode cX8_init 315 = .ok (.istore 8, 2) := by decide +kernel
theorem dX8_init_317 : decode cX8_init 317 = .ok (.iload 9, 2) := by decide +kernel
theorem dX8_init_319 : decode cX8_init 319 = .ok (.iconst 1, 1) := by decide +kernel
theorem dX8_init_320 : decode cX8_init 320 = .ok (.iadd, 1) := by decide +kernel
theorem dX8_init_321 : decode cX8_init 321 = .ok (.iconst 4, 1) := by decide +kernel
theorem dX8_init_322 : decode cX8_init 322 = .ok (.irem, 1) := by decide +kernel
theorem dX8_init_323 : decode cX8_init 323 = .ok (.istore 9, 2) := by decide +kernel
theorem dX8_init_325 : decode cX8_init 325 = .ok (.iinc 10 1, 3) := by decide +kernel
theorem dX8_init_328 : decode cX8_init 328 = .ok (.goto (-34), 3) := by decide +kernel
theorem dX8_init_331 : decode cX8_init 331 = .ok (.aload_n 0, 1) := by decide +kernel
theorem dX8_init_332 : decode cX8_init 332 = .ok (.getfield 13, 3) := by decide +kernel
theorem dX8_init_335 : decode cX8_init 335 = .ok (.bipush 64, 2) := by decide +kernel
theorem dX8_init_337 : decode cX8_init 337 = .ok (.iload 6, 2) := by decide +kernel
theorem dX8_init_339 : decode cX8_init 339 = .ok (.imul, 1) := by decide +kernel
theorem dX8_init_340 : decode cX8_init 340 = .ok (.iload_n 1, 1) := by decide +kernel
theorem dX8_init_341 : decode cX8_init 341 = .ok (.iadd, 1) := by decide +kernel
theorem dX8_init_342 : decode cX8_init 342 = .ok (.bipush 16, 2) := by decide +kernel
theorem dX8_init_344 : decode cX8_init 344 = .ok (.iload 7, 2) := by decide +kernel
theorem dX8_init_346 : decode cX8_init 346 = .ok (.imul, 1) := by decide +kernel
theorem dX8_init_347 : decode cX8_init 347 = .ok (.iconst 4, 1) := by decide +kernel
theorem dX8_init_348 : decode cX8_init 348 = .ok (.iload 8, 2) := by decide +kernel
theorem dX8_init_350 : decode cX8_init 350 = .ok (.imul, 1) := by decide +kernel
theorem dX8_init_351 : decode cX8_init 351 = .ok (.iadd, 1) := by decide +kernel
theorem dX8_init_352 : decode cX8_init 352 = .ok (.iload 9, 2) := by decide +kernel
theorem dX8_init_354 : decode cX8_init 354 = .ok (.iadd, 1) := by decide +kernel
theorem dX8_init_355 : decode cX8_init 355 = .ok (.iastore, 1) := by decide +kernel
theorem dX8_init_356 : decode cX8_init 356 = .ok (.iinc 6 1, 3) := by decide +kernel
theorem dX8_init_359 : decode cX8_init 359 = .ok (.goto (-117), 3) := by decide +kernel
theorem dX8_init_362 : decode cX8_init 362 = .ok (.iinc 1 1, 3) := by decide +kernel
theorem dX8_init_365 : decode cX8_init 365 = .ok (.goto (-211), 3) := by decide +kernel
theorem dX8_init_368 : decode cX8_init 368 = .ok (.return_, 1) := by decide +kernel
theorem dX8_in_0 : decode cX8_in 0 = .ok (.lload_n 0, 1) := by decide +kernel
theorem dX8_in_1 : decode cX8_in 1 = .ok (.lload_n 2, 1) := by decide +kernel
theorem dX8_in_2 : decode cX8_in 2 = .ok (.lcmp, 1) := by decide +kernel
theorem dX8_in_3 : decode cX8_in 3 = .ok (.ifCond .lt 14, 3) := by decide +kernel
theorem dX8_in_6 : decode cX8_in 6 = .ok (.lload_n 0, 1) := by decide +kernel
theorem dX8_in_7 : decode cX8_in 7 = .ok (.lload 4, 2) := by decide +kernel
theorem dX8_in_9 : decode cX8_in 9 = .ok (.lcmp, 1) := by decide +kernel
theorem dX8_in_10 : decode cX8_in 10 = .ok (.ifCond .gt 7, 3) := by decide +kernel
theorem dX8_in_13 : decode cX8_in 13 = .ok (.iconst 1, 1) := by decide +kernel
theorem dX8_in_14 : decode cX8_in 14 = .ok (.goto 4, 3) := by decide +kernel
theorem dX8_in_17 : decode cX8_in 17 = .ok (.iconst 0, 1) := by decide +kernel
theorem dX8_in_18 : decode cX8_in 18 = .ok (.ireturn, 1) := by decide +kernel
set_option maxRecDepth 20000 in
theorem ggX8_beside_X8_in : GoodIn wsX8_beside wsX8_in := goodIn_r _ [5] (by decide +kernel) (by decide +kernel)
set_option maxRecDepth 20000 in
theorem gX8_beside_X8_in : GoodIn wsX8_beside (va_wsS RX8 75 yX8_in wsX8_in) := goodIn_app (goodIn_of _ (by decide +kernel)) ggX8_beside_X8_in
theorem dX8_beside_0 : decode cX8_beside 0 = .ok (.iload_n 0, 1) := by decide +kernel
theorem dX8_beside_1 : decode cX8_beside 1 = .ok (.iconst 4, 1) := by decide +kernel
theorem dX8_beside_2 : decode cX8_beside 2 = .ok (.irem, 1) := by decide +kernel
theorem dX8_beside_3 : decode cX8_beside 3 = .ok (.istore_n 1, 1) := by decide +kernel
theorem dX8_beside_4 : decode cX8_beside 4 = .ok (.iload_n 0, 1) := by decide +kernel
theorem dX8_beside_5 : decode cX8_beside 5 = .ok (.bipush 16, 2) := by decide +kernel
theorem dX8_beside_7 : decode cX8_beside 7 = .ok (.idiv, 1) := by decide +kernel
theorem dX8_beside_8 : decode cX8_beside 8 = .ok (.iload_n 1, 1) := by decide +kernel
theorem dX8_beside_9 : decode cX8_beside 9 = .ok (.ifCond .ne 7, 3) := by decide +kernel
theorem dX8_beside_12 : decode cX8_beside 12 = .ok (.iconst (-1), 1) := by decide +kernel
theorem dX8_beside_13 : decode cX8_beside 13 = .ok (.goto 13, 3) := by decide +kernel
theorem dX8_beside_16 : decode cX8_beside 16 = .ok (.iload_n 1, 1) := by decide +kernel
theorem dX8_beside_17 : decode cX8_beside 17 = .ok (.iconst 2, 1) := by decide +kernel
theorem dX8_beside_18 : decode cX8_beside 18 = .ok (.if_icmp .ne 7, 3) := by decide +kernel
theorem dX8_beside_21 : decode cX8_beside 21 = .ok (.iconst 1, 1) := by decide +kernel
theorem dX8_beside_22 : decode cX8_beside 22 = .ok (.goto 4, 3) := by decide +kernel
theorem dX8_beside_25 : decode cX8_beside 25 = .ok (.iconst 0, 1) := by decide +kernel
theorem dX8_beside_26 : decode cX8_beside 26 = .ok (.iadd, 1) := by decide +kernel
theorem dX8_beside_27 : decode cX8_beside 27 = .ok (.istore_n 2, 1) := by decide +kernel
theorem dX8_beside_28 : decode cX8_beside 28 = .ok (.iload_n 0, 1) := by decide +kernel
theorem dX8_beside_29 : decode cX8_beside 29 = .ok (.iconst 4, 1) := by decide +kernel
theorem dX8_beside_30 : decode cX8_beside 30 = .ok (.idiv, 1) := by decide +kernel
theorem dX8_beside_31 : decode cX8_beside 31 = .ok (.iconst 4, 1) := by decide +kernel
theorem dX8_beside_32 : decode cX8_beside 32 = .ok (.irem, 1) := by decide +kernel
theorem dX8_beside_33 : decode cX8_beside 33 = .ok (.iload_n 1, 1) := by decide +kernel
theorem dX8_beside_34 : decode cX8_beside 34 = .ok (.iconst 1, 1) := by decide +kernel
theorem dX8_beside_35 : decode cX8_beside 35 = .ok (.if_icmp .ne 7, 3) := by decide +kernel
theorem dX8_beside_38 : decode cX8_beside 38 = .ok (.iconst 1, 1) := by decide +kernel
theorem dX8_beside_39 : decode cX8_beside 39 = .ok (.goto 13, 3) := by decide +kernel
theorem dX8_beside_42 : decode cX8_beside 42 = .ok (.iload_n 1, 1) := by decide +kernel
theorem dX8_beside_43 : decode cX8_beside 43 = .ok (.iconst 3, 1) := by decide +kernel
theorem dX8_beside_44 : decode cX8_beside 44 = .ok (.if_icmp .ne 7, 3) := by decide +kernel
theorem dX8_beside_47 : decode cX8_beside 47 = .ok (.iconst (-1), 1) := by decide +kernel
theorem dX8_beside_48 : decode cX8_beside 48 = .ok (.goto 4, 3) := by decide +kernel
theorem dX8_beside_51 : decode cX8_beside 51 = .ok (.iconst 0, 1) := by decide +kernel
theorem dX8_beside_52 : decode cX8_beside 52 = .ok (.iadd, 1) := by decide +kernel
theorem dX8_beside_53 : decode cX8_beside 53 = .ok (.istore_n 3, 1) := by decide +kernel
theorem dX8_beside_54 : decode cX8_beside 54 = .ok (.iload_n 2, 1) := by decide +kernel
theorem dX8_beside_55 : decode cX8_beside 55 = .ok (.i2l, 1) := by decide +kernel
theorem dX8_beside_56 : decode cX8_beside 56 = .ok (.lconst 0, 1) := by decide +kernel
theorem dX8_beside_57 : decode cX8_beside 57 = .ok (.ldc2_w 73, 3) := by decide +kernel
theorem dX8_beside_60 : decode cX8_beside 60 = .ok (.invokestatic 75, 3) := by decide +kernel
theorem dX8_beside_63 : decode cX8_beside 63 = .ok (.ifCond .eq 32, 3) := by decide +kernel
theorem dX8_beside_66 : decode cX8_beside 66 = .ok (.iload_n 3, 1) := by decide +kernel
theorem dX8_beside_67 : decode cX8_beside 67 = .ok (.i2l, 1) := by decide +kernel
theorem dX8_beside_68 : decode cX8_beside 68 = .ok (.lconst 0, 1) := by decide +kernel
theorem dX8_beside_69 : decode cX8_beside 69 = .ok (.ldc2_w 73, 3) := by decide +kernel
theorem dX8_beside_72 : decode cX8_beside 72 = .ok (.invokestatic 75, 3) := by decide +kernel
theorem dX8_beside_75 : decode cX8_beside 75 = .ok (.ifCond .eq 20, 3) := by decide +kernel
theorem dX8_beside_78 : decode cX8_beside 78 = .ok (.bipush 16, 2) := by decide +kernel
theorem dX8_beside_80 : decode cX8_beside 80 = .ok (.iload_n 2, 1) := by decide +kernel
theorem dX8_beside_81 : decode cX8_beside 81 = .ok (.imul, 1) := by decide +kernel
theorem dX8_beside_82 : decode cX8_beside 82 = .ok (.iconst 4, 1) := by decide +kernel
theorem dX8_beside_83 : decode cX8_beside 83 = .ok (.iload_n 3, 1) := by decide +kernel
theorem dX8_beside_84 : decode cX8_beside 84 = .ok (.imul, 1) := by decide +kernel
theorem dX8_beside_85 : decode cX8_beside 85 = .ok (.iadd, 1) := by decide +kernel
theorem dX8_beside_86 : decode cX8_beside 86 = .ok (.iload_n 1, 1) := by decide +kernel
theorem dX8_beside_87 : decode cX8_beside 87 = .ok (.iconst 2, 1) := by decide +kernel
theorem dX8_beside_88 : decode cX8_beside 88 = .ok (.iadd, 1) := by decide +kernel
theorem dX8_beside_89 : decode cX8_beside 89 = .ok (.iconst 4, 1) := by decide +kernel
theorem dX8_beside_90 : decode cX8_beside 90 = .ok (.irem, 1) := by decide +kernel
theorem dX8_beside_91 : decode cX8_beside 91 = .ok (.iadd, 1) := by decide +kernel
theorem dX8_beside_92 : decode cX8_beside 92 = .ok (.goto 5, 3) := by decide +kernel
theorem dX8_beside_95 : decode cX8_beside 95 = .ok (.bipush (-9), 2) := by decide +kernel
theorem dX8_beside_97 : decode cX8_beside 97 = .ok (.ireturn, 1) := by decide +kernel
theorem dX8_has_0 : decode cX8_has 0 = .ok (.lload_n 0, 1) := by decide +kernel
theorem dX8_has_1 : decode cX8_has 1 = .ok (.iload_n 2, 1) := by decide +kernel
theorem dX8_has_2 : decode cX8_has 2 = .ok (.lshr, 1) := by decide +kernel
theorem dX8_has_3 : decode cX8_has 3 = .ok (.lconst 1, 1) := by decide +kernel
theorem dX8_has_4 : decode cX8_has 4 = .ok (.land, 1) := by decide +kernel
theorem dX8_has_5 : decode cX8_has 5 = .ok (.lconst 1, 1) := by decide +kernel
theorem dX8_has_6 : decode cX8_has 6 = .ok (.lcmp, 1) := by decide +kernel
theorem dX8_has_7 : decode cX8_has 7 = .ok (.ifCond .ne 7, 3) := by decide +kernel
theorem dX8_has_10 : decode cX8_has 10 = .ok (.iconst 1, 1) := by decide +kernel
theorem dX8_has_11 : decode cX8_has 11 = .ok (.goto 4, 3) := by decide +kernel
theorem dX8_has_14 : decode cX8_has 14 = .ok (.iconst 0, 1) := by decide +kernel
theorem dX8_has_15 : decode cX8_has 15 = .ok (.ireturn, 1) := by decide +kernel
theorem dX8_ones_0 : decode cX8_ones 0 = .ok (.iconst 0, 1) := by decide +kernel
theorem dX8_ones_1 : decode cX8_ones 1 = .ok (.istore_n 2, 1) := by decide +kernel
theorem dX8_ones_2 : decode cX8_ones 2 = .ok (.iconst 0, 1) := by decide +kernel
theorem dX8_ones_3 : decode cX8_ones 3 = .ok (.istore_n 3, 1) := by decide +kernel
theorem dX8_ones_4 : decode cX8_ones 4 = .ok (.iload_n 3, 1) := by decide +kernel
theorem dX8_ones_5 : decode cX8_ones 5 = .ok (.bipush 64, 2) := by decide +kernel
theorem dX8_ones_7 : decode cX8_ones 7 = .ok (.if_icmp .ge 18, 3) := by decide +kernel
theorem dX8_ones_10 : decode cX8_ones 10 = .ok (.iload_n 2, 1) := by decide +kernel
theorem dX8_ones_11 : decode cX8_ones 11 = .ok (.lload_n 0, 1) := by decide +kernel
theorem dX8_ones_12 : decode cX8_ones 12 = .ok (.iload_n 3, 1) := by decide +kernel
theorem dX8_ones_13 : decode cX8_ones 13 = .ok (.lshr, 1) := by decide +kernel
theorem dX8_ones_14 : decode cX8_ones 14 = .ok (.lconst 1, 1) := by decide +kernel
theorem dX8_ones_15 : decode cX8_ones 15 = .ok (.land, 1) := by decide +kernel
theorem dX8_ones_16 : decode cX8_ones 16 = .ok (.l2i, 1) := by decide +kernel
theorem dX8_ones_17 : decode cX8_ones 17 = .ok (.iadd, 1) := by decide +kernel
theorem dX8_ones_18 : decode cX8_ones 18 = .ok (.istore_n 2, 1) := by decide +kernel
theorem dX8_ones_19 : decode cX8_ones 19 = .ok (.iinc 3 1, 3) := by decide +kernel
theorem dX8_ones_22 : decode cX8_ones 22 = .ok (.goto (-18), 3) := by decide +kernel
theorem dX8_ones_25 : decode cX8_ones 25 = .ok (.iload_n 2, 1) := by decide +kernel
theorem dX8_ones_26 : decode cX8_ones 26 = .ok (.ireturn, 1) := by decide +kernel
theorem dX8_less_0 : decode cX8_less 0 = .ok (.lload_n 0, 1) := by decide +kernel
theorem dX8_less_1 : decode cX8_less 1 = .ok (.ldc2_w 79, 3) := by decide +kernel
theorem dX8_less_4 : decode cX8_less 4 = .ok (.lxor, 1) := by decide +kernel
theorem dX8_less_5 : decode cX8_less 5 = .ok (.lload_n 2, 1) := by decide +kernel
theorem dX8_less_6 : decode cX8_less 6 = .ok (.ldc2_w 79, 3) := by decide +kernel
theorem dX8_less_9 : decode cX8_less 9 = .ok (.lxor, 1) := by decide +kernel
theorem dX8_less_10 : decode cX8_less 10 = .ok (.lcmp, 1) := by decide +kernel
theorem dX8_less_11 : decode cX8_less 11 = .ok (.ifCond .ge 7, 3) := by decide +kernel
theorem dX8_less_14 : decode cX8_less 14 = .ok (.iconst 1, 1) := by decide +kernel
theorem dX8_less_15 : decode cX8_less 15 = .ok (.goto 4, 3) := by decide +kernel
theorem dX8_less_18 : decode cX8_less 18 = .ok (.iconst 0, 1) := by decide +kernel
theorem dX8_less_19 : decode cX8_less 19 = .ok (.ireturn, 1) := by decide +kernel
set_option maxRecDepth 20000 in
theorem ggX8_isFigure_X8_in : GoodIn wsX8_isFigure wsX8_in := goodIn_r _ [5] (by decide +kernel) (by decide +kernel)
set_option maxRecDepth 20000 in
theorem gX8_isFigure_X8_in : GoodIn wsX8_isFigure (va_wsS RX8 75 yX8_in wsX8_in) := goodIn_app (goodIn_of _ (by decide +kernel)) ggX8_isFigure_X8_in
theorem dX8_isFigure_0 : decode cX8_isFigure 0 = .ok (.iload_n 0, 1) := by decide +kernel
theorem dX8_isFigure_1 : decode cX8_isFigure 1 = .ok (.i2l, 1) := by decide +kernel
theorem dX8_isFigure_2 : decode cX8_isFigure 2 = .ok (.lconst 0, 1) := by decide +kernel
theorem dX8_isFigure_3 : decode cX8_isFigure 3 = .ok (.ldc2_w 81, 3) := by decide +kernel
theorem dX8_isFigure_6 : decode cX8_isFigure 6 = .ok (.invokestatic 75, 3) := by decide +kernel
theorem dX8_isFigure_9 : decode cX8_isFigure 9 = .ok (.ireturn, 1) := by decide +kernel
set_option maxRecDepth 20000 in
theorem ggX8_write_X8_in : GoodIn wsX8_write wsX8_in := goodIn_r _ [8] (by decide +kernel) (by decide +kernel)
set_option maxRecDepth 20000 in
theorem gX8_write_X8_in : GoodIn wsX8_write (va_wsS RX8 75 yX8_in wsX8_in) := goodIn_app (goodIn_of _ (by decide +kernel)) ggX8_write_X8_in
theorem dX8_write_0 : decode cX8_write 0 = .ok (.iload_n 1, 1) := by decide +kernel
theorem dX8_write_1 : decode cX8_write 1 = .ok (.i2l, 1) := by decide +kernel
theorem dX8_write_2 : decode cX8_write 2 = .ok (.lconst 1, 1) := by decide +kernel
theorem dX8_write_3 : decode cX8_write 3 = .ok (.ldc2_w 83, 3) := by decide +kernel
theorem dX8_write_6 : decode cX8_write 6 = .ok (.invokestatic 75, 3) := by decide +kernel
theorem dX8_write_9 : decode cX8_write 9 = .ok (.ifCond .ne 6, 3) := by decide +kernel
theorem dX8_write_12 : decode cX8_write 12 = .ok (.bipush (-2), 2) := by decide +kernel
theorem dX8_write_14 : decode cX8_write 14 = .ok (.ireturn, 1) := by decide +kernel
theorem dX8_write_15 : decode cX8_write 15 = .ok (.aload_n 0, 1) := by decide +kernel
theorem dX8_write_16 : decode cX8_write 16 = .ok (.getfield 85, 3) := by decide +kernel
theorem dX8_write_19 : decode cX8_write 19 = .ok (.iload_n 1, 1) := by decide +kernel
theorem dX8_write_20 : decode cX8_write 20 = .ok (.iadd, 1) := by decide +kernel
theorem dX8_write_21 : decode cX8_write 21 = .ok (.bipush 16, 2) := by decide +kernel
theorem dX8_write_23 : decode cX8_write 23 = .ok (.if_icmp .le 6, 3) := by decide +kernel
theorem dX8_write_26 : decode cX8_write 26 = .ok (.bipush (-4), 2) := by decide +kernel
theorem dX8_write_28 : decode cX8_write 28 = .ok (.ireturn, 1) := by decide +kernel
theorem dX8_write_29 : decode cX8_write 29 = .ok (.iload_n 1, 1) := by decide +kernel
theorem dX8_write_30 : decode cX8_write 30 = .ok (.iconst 1, 1) := by decide +kernel
theorem dX8_write_31 : decode cX8_write 31 = .ok (.isub, 1) := by decide +kernel
theorem dX8_write_32 : decode cX8_write 32 = .ok (.istore 4, 2) := by decide +kernel
theorem dX8_write_34 : decode cX8_write 34 = .ok (.iload 4, 2) := by decide +kernel
theorem dX8_write_36 : decode cX8_write 36 = .ok (.ifCond .lt 40, 3) := by decide +kernel
theorem dX8_write_39 : decode cX8_write 39 = .ok (.aload_n 0, 1) := by decide +kernel
theorem dX8_write_40 : decode cX8_write 40 = .ok (.getfield 20, 3) := by decide +kernel
theorem dX8_write_43 : decode cX8_write 43 = .ok (.aload_n 0, 1) := by decide +kernel
theorem dX8_write_44 : decode cX8_write 44 = .ok (.getfield 85, 3) := by decide +kernel
theorem dX8_write_47 : decode cX8_write 47 = .ok (.lload_n 2, 1) := by decide +kernel
theorem dX8_write_48 : decode cX8_write 48 = .ok (.bipush 8, 2) := by decide +kernel
theorem dX8_write_50 : decode cX8_write 50 = .ok (.iload 4, 2) := by decide +kernel
theorem dX8_write_52 : decode cX8_write 52 = .ok (.imul, 1) := by decide +kernel
theorem dX8_write_53 : decode cX8_write 53 = .ok (.lshr, 1) := by decide +kernel
theorem dX8_write_54 : decode cX8_write 54 = .ok (.ldc2_w 89, 3) := by decide +kernel
theorem dX8_write_57 : decode cX8_write 57 = .ok (.land, 1) := by decide +kernel
theorem dX8_write_58 : decode cX8_write 58 = .ok (.l2i, 1) := by decide +kernel
theorem dX8_write_59 : decode cX8_write 59 = .ok (.iastore, 1) := by decide +kernel
theorem dX8_write_60 : decode cX8_write 60 = .ok (.aload_n 0, 1) := by decide +kernel
theorem dX8_write_61 : decode cX8_write 61 = .ok (.dup, 1) := by decide +kernel
theorem dX8_write_62 : decode cX8_write 62 = .ok (.getfield 85, 3) := by decide +kernel
theorem dX8_write_65 : decode cX8_write 65 = .ok (.iconst 1, 1) := by decide +kernel
theorem dX8_write_66 : decode cX8_write 66 = .ok (.iadd, 1) := by decide +kernel
theorem dX8_write_67 : decode cX8_write 67 = .ok (.putfield 85, 3) := by decide +kernel
theorem dX8_write_70 : decode cX8_write 70 = .ok (.iinc 4 (-1), 3) := by decide +kernel
theorem dX8_write_73 : decode cX8_write 73 = .ok (.goto (-39), 3) := by decide +kernel
theorem dX8_write_76 : decode cX8_write 76 = .ok (.aload_n 0, 1) := by decide +kernel
theorem dX8_write_77 : decode cX8_write 77 = .ok (.getfield 85, 3) := by decide +kernel
theorem dX8_write_80 : decode cX8_write 80 = .ok (.ireturn, 1) := by decide +kernel
theorem dX8_wipe_0 : decode cX8_wipe 0 = .ok (.aload_n 0, 1) := by decide +kernel
theorem dX8_wipe_1 : decode cX8_wipe 1 = .ok (.getfield 85, 3) := by decide +kernel
theorem dX8_wipe_4 : decode cX8_wipe 4 = .ok (.istore_n 1, 1) := by decide +kernel
theorem dX8_wipe_5 : decode cX8_wipe 5 = .ok (.aload_n 0, 1) := by decide +kernel
theorem dX8_wipe_6 : decode cX8_wipe 6 = .ok (.iconst 0, 1) := by decide +kernel
theorem dX8_wipe_7 : decode cX8_wipe 7 = .ok (.putfield 85, 3) := by decide +kernel
theorem dX8_wipe_10 : decode cX8_wipe 10 = .ok (.iload_n 1, 1) := by decide +kernel
theorem dX8_wipe_11 : decode cX8_wipe 11 = .ok (.ireturn, 1) := by decide +kernel
set_option maxRecDepth 20000 in
theorem ggX8_valueOf_X8_in : GoodIn wsX8_valueOf wsX8_in := goodIn_r _ [8] (by decide +kernel) (by decide +kernel)
set_option maxRecDepth 20000 in
theorem gX8_valueOf_X8_in : GoodIn wsX8_valueOf (va_wsS RX8 75 yX8_in wsX8_in) := goodIn_app (goodIn_of _ (by decide +kernel)) ggX8_valueOf_X8_in
theorem dX8_valueOf_0 : decode cX8_valueOf 0 = .ok (.iload_n 0, 1) := by decide +kernel
theorem dX8_valueOf_1 : decode cX8_valueOf 1 = .ok (.i2l, 1) := by decide +kernel
theorem dX8_valueOf_2 : decode cX8_valueOf 2 = .ok (.ldc2_w 91, 3) := by decide +kernel
theorem dX8_valueOf_5 : decode cX8_valueOf 5 = .ok (.ldc2_w 93, 3) := by decide +kernel
theorem dX8_valueOf_8 : decode cX8_valueOf 8 = .ok (.invokestatic 75, 3) := by decide +kernel
theorem dX8_valueOf_11 : decode cX8_valueOf 11 = .ok (.ifCond .eq 10, 3) := by decide +kernel
theorem dX8_valueOf_14 : decode cX8_valueOf 14 = .ok (.iload_n 0, 1) := by decide +kernel
theorem dX8_valueOf_15 : decode cX8_valueOf 15 = .ok (.bipush 48, 2) := by decide +kernel
theorem dX8_valueOf_17 : decode cX8_valueOf 17 = .ok (.isub, 1) := by decide +kernel
theorem dX8_valueOf_18 : decode cX8_valueOf 18 = .ok (.goto 26, 3) := by decide +kernel
theorem dX8_valueOf_21 : decode cX8_valueOf 21 = .ok (.iload_n 0, 1) := by decide +kernel
theorem dX8_valueOf_22 : decode cX8_valueOf 22 = .ok (.i2l, 1) := by decide +kernel
theorem dX8_valueOf_23 : decode cX8_valueOf 23 = .ok (.ldc2_w 95, 3) := by decide +kernel
theorem dX8_valueOf_26 : decode cX8_valueOf 26 = .ok (.ldc2_w 97, 3) := by decide +kernel
theorem dX8_valueOf_29 : decode cX8_valueOf 29 = .ok (.invokestatic 75, 3) := by decide +kernel
theorem dX8_valueOf_32 : decode cX8_valueOf 32 = .ok (.ifCond .eq 10, 3) := by decide +kernel
theorem dX8_valueOf_35 : decode cX8_valueOf 35 = .ok (.iload_n 0, 1) := by decide +kernel
theorem dX8_valueOf_36 : decode cX8_valueOf 36 = .ok (.bipush 87, 2) := by decide +kernel
theorem dX8_valueOf_38 : decode cX8_valueOf 38 = .ok (.isub, 1) := by decide +kernel
theorem dX8_valueOf_39 : decode cX8_valueOf 39 = .ok (.goto 5, 3) := by decide +kernel
theorem dX8_valueOf_42 : decode cX8_valueOf 42 = .ok (.bipush (-9), 2) := by decide +kernel
theorem dX8_valueOf_44 : decode cX8_valueOf 44 = .ok (.ireturn, 1) := by decide +kernel
set_option maxRecDepth 20000 in
theorem ggX8_faultOf_X8_valueOf : GoodIn wsX8_faultOf wsX8_valueOf := goodIn_r _ [6, 7, 8, 9, 10, 11, 12, 5, 13] (by decide +kernel) (by decide +kernel)
set_option maxRecDepth 20000 in
theorem gX8_faultOf_X8_valueOf : GoodIn wsX8_faultOf (va_wsS RX8 99 yX8_valueOf wsX8_valueOf) := goodIn_app (goodIn_of _ (by decide +kernel)) ggX8_faultOf_X8_valueOf
theorem dX8_faultOf_0 : decode cX8_faultOf 0 = .ok (.iconst 0, 1) := by decide +kernel
theorem dX8_faultOf_1 : decode cX8_faultOf 1 = .ok (.istore_n 1, 1) := by decide +kernel
theorem dX8_faultOf_2 : decode cX8_faultOf 2 = .ok (.iload_n 1, 1) := by decide +kernel
theorem dX8_faultOf_3 : decode cX8_faultOf 3 = .ok (.aload_n 0, 1) := by decide +kernel
theorem dX8_faultOf_4 : decode cX8_faultOf 4 = .ok (.getfield 85, 3) := by decide +kernel
theorem dX8_faultOf_7 : decode cX8_faultOf 7 = .ok (.if_icmp .ge 23, 3) := by decide +kernel
theorem dX8_faultOf_10 : decode cX8_faultOf 10 = .ok (.aload_n 0, 1) := by decide +kernel
theorem dX8_faultOf_11 : decode cX8_faultOf 11 = .ok (.getfield 20, 3) := by decide +kernel
theorem dX8_faultOf_14 : decode cX8_faultOf 14 = .ok (.iload_n 1, 1) := by decide +kernel
theorem dX8_faultOf_15 : decode cX8_faultOf 15 = .ok (.iaload, 1) := by decide +kernel
theorem dX8_faultOf_16 : decode cX8_faultOf 16 = .ok (.invokestatic 99, 3) := by decide +kernel
theorem dX8_faultOf_19 : decode cX8_faultOf 19 = .ok (.bipush (-9), 2) := by decide +kernel
theorem dX8_faultOf_21 : decode cX8_faultOf 21 = .ok (.if_icmp .eq 9, 3) := by decide +kernel
theorem dX8_faultOf_24 : decode cX8_faultOf 24 = .ok (.iinc 1 1, 3) := by decide +kernel
theorem dX8_faultOf_27 : decode cX8_faultOf 27 = .ok (.goto (-25), 3) := by decide +kernel
theorem dX8_faultOf_30 : decode cX8_faultOf 30 = .ok (.iload_n 1, 1) := by decide +kernel
theorem dX8_faultOf_31 : decode cX8_faultOf 31 = .ok (.bipush 16, 2) := by decide +kernel
theorem dX8_faultOf_33 : decode cX8_faultOf 33 = .ok (.if_icmp .ne 8, 3) := by decide +kernel
theorem dX8_faultOf_36 : decode cX8_faultOf 36 = .ok (.bipush (-9), 2) := by decide +kernel
theorem dX8_faultOf_38 : decode cX8_faultOf 38 = .ok (.goto 4, 3) := by decide +kernel
theorem dX8_faultOf_41 : decode cX8_faultOf 41 = .ok (.iload_n 1, 1) := by decide +kernel
theorem dX8_faultOf_42 : decode cX8_faultOf 42 = .ok (.ireturn, 1) := by decide +kernel
set_option maxRecDepth 20000 in
theorem ggX8_fault_X8_faultOf : GoodIn wsX8_fault wsX8_faultOf := goodIn_r _ [5, 6, 7, 8, 9, 4, 10, 11, 12, 13, 14, 15, 16, 17, 18, 19, 20, 21, 22, 23, 24, 25, 26, 27, 28, 29, 30, 31, 32, 33, 34, 35, 36, 37, 38, 39, 40] (by decide +kernel) (by decide +kernel)
set_option maxRecDepth 20000 in
theorem gX8_fault_X8_faultOf : GoodIn wsX8_fault (wsV RX8 102 RX8 yX8_faultOf wsX8_faultOf) := goodIn_app (goodIn_of _ (by decide +kernel)) ggX8_fault_X8_faultOf
theorem dX8_fault_0 : decode cX8_fault 0 = .ok (.aload_n 0, 1) := by decide +kernel
theorem dX8_fault_1 : decode cX8_fault 1 = .ok (.invokevirtual 102, 3) := by decide +kernel
theorem dX8_fault_4 : decode cX8_fault 4 = .ok (.ireturn, 1) := by decide +kernel
set_option maxRecDepth 20000 in
theorem ggX8_word_X8_isFigure : GoodIn wsX8_word wsX8_isFigure := goodIn_r _ [6, 7, 8, 9, 5, 10] (by decide +kernel) (by decide +kernel)
set_option maxRecDepth 20000 in
theorem gX8_word_X8_isFigure : GoodIn wsX8_word (va_wsS RX8 106 yX8_isFigure wsX8_isFigure) := goodIn_app (goodIn_of _ (by decide +kernel)) ggX8_word_X8_isFigure
set_option maxRecDepth 20000 in
theorem ggX8_word_X8_faultOf : GoodIn wsX8_word wsX8_faultOf := goodIn_r _ [14, 15, 2, 16, 17, 5, 18, 19, 20, 21, 22, 8, 9, 10, 26, 27, 28, 29, 30, 31, 32, 33, 34, 35, 36, 37, 38, 39, 40, 41, 42, 43, 44, 45, 46, 47, 48] (by decide +kernel) (by decide +kernel)
set_option maxRecDepth 20000 in
theorem gX8_word_X8_faultOf : GoodIn wsX8_word (wsV RX8 102 RX8 yX8_faultOf wsX8_faultOf) := goodIn_app (goodIn_of _ (by decide +kernel)) ggX8_word_X8_faultOf
set_option maxRecDepth 20000 in
theorem ggX8_word_X8_valueOf : GoodIn wsX8_word wsX8_valueOf := goodIn_r _ [18, 19, 20, 21, 22, 8, 9, 5, 10] (by decide +kernel) (by decide +kernel)
set_option maxRecDepth 20000 in
theorem gX8_word_X8_valueOf : GoodIn wsX8_word (va_wsS RX8 99 yX8_valueOf wsX8_valueOf) := goodIn_app (goodIn_of _ (by decide +kernel)) ggX8_word_X8_valueOf
set_option maxRecDepth 20000 in
theorem ggX8_word_X8_ones : GoodIn wsX8_word wsX8_ones := goodIn_r _ [25] (by decide +kernel) (by decide +kernel)
set_option maxRecDepth 20000 in
theorem gX8_word_X8_ones : GoodIn wsX8_word (va_wsS RX8 110 yX8_ones wsX8_ones) := goodIn_app (goodIn_of _ (by decide +kernel)) ggX8_word_X8_ones
theorem dX8_word_0 : decode cX8_word 0 = .ok (.iload_n 1, 1) := by decide +kernel
theorem dX8_word_1 : decode cX8_word 1 = .ok (.invokestatic 106, 3) := by decide +kernel
theorem dX8_word_4 : decode cX8_word 4 = .ok (.ifCond .ne 5, 3) := by decide +kernel
theorem dX8_word_7 : decode cX8_word 7 = .ok (.iconst (-1), 1) := by decide +kernel
theorem dX8_word_8 : decode cX8_word 8 = .ok (.ireturn, 1) := by decide +kernel
theorem dX8_word_9 : decode cX8_word 9 = .ok (.aload_n 0, 1) := by decide +kernel
theorem dX8_word_10 : decode cX8_word 10 = .ok (.invokevirtual 102, 3) := by decide +kernel
theorem dX8_word_13 : decode cX8_word 13 = .ok (.bipush (-9), 2) := by decide +kernel
theorem dX8_word_15 : decode cX8_word 15 = .ok (.if_icmp .eq 6, 3) := by decide +kernel
theorem dX8_word_18 : decode cX8_word 18 = .ok (.bipush (-3), 2) := by decide +kernel
theorem dX8_word_20 : decode cX8_word 20 = .ok (.ireturn, 1) := by decide +kernel
theorem dX8_word_21 : decode cX8_word 21 = .ok (.aload_n 0, 1) := by decide +kernel
theorem dX8_word_22 : decode cX8_word 22 = .ok (.getfield 17, 3) := by decide +kernel
theorem dX8_word_25 : decode cX8_word 25 = .ok (.iload_n 1, 1) := by decide +kernel
theorem dX8_word_26 : decode cX8_word 26 = .ok (.lconst 0, 1) := by decide +kernel
theorem dX8_word_27 : decode cX8_word 27 = .ok (.lastore, 1) := by decide +kernel
theorem dX8_word_28 : decode cX8_word 28 = .ok (.iconst 0, 1) := by decide +kernel
theorem dX8_word_29 : decode cX8_word 29 = .ok (.istore_n 2, 1) := by decide +kernel
theorem dX8_word_30 : decode cX8_word 30 = .ok (.iload_n 2, 1) := by decide +kernel
theorem dX8_word_31 : decode cX8_word 31 = .ok (.bipush 16, 2) := by decide +kernel
theorem dX8_word_33 : decode cX8_word 33 = .ok (.if_icmp .ge 32, 3) := by decide +kernel
theorem dX8_word_36 : decode cX8_word 36 = .ok (.aload_n 0, 1) := by decide +kernel
theorem dX8_word_37 : decode cX8_word 37 = .ok (.getfield 17, 3) := by decide +kernel
theorem dX8_word_40 : decode cX8_word 40 = .ok (.iload_n 1, 1) := by decide +kernel
theorem dX8_word_41 : decode cX8_word 41 = .ok (.dup2, 1) := by decide +kernel
theorem dX8_word_42 : decode cX8_word 42 = .ok (.laload, 1) := by decide +kernel
theorem dX8_word_43 : decode cX8_word 43 = .ok (.aload_n 0, 1) := by decide +kernel
theorem dX8_word_44 : decode cX8_word 44 = .ok (.getfield 20, 3) := by decide +kernel
theorem dX8_word_47 : decode cX8_word 47 = .ok (.iload_n 2, 1) := by decide +kernel
theorem dX8_word_48 : decode cX8_word 48 = .ok (.iaload, 1) := by decide +kernel
theorem dX8_word_49 : decode cX8_word 49 = .ok (.invokestatic 99, 3) := by decide +kernel
theorem dX8_word_52 : decode cX8_word 52 = .ok (.i2l, 1) := by decide +kernel
theorem dX8_word_53 : decode cX8_word 53 = .ok (.iconst 4, 1) := by decide +kernel
theorem dX8_word_54 : decode cX8_word 54 = .ok (.iload_n 2, 1) := by decide +kernel
theorem dX8_word_55 : decode cX8_word 55 = .ok (.imul, 1) := by decide +kernel
theorem dX8_word_56 : decode cX8_word 56 = .ok (.lshl, 1) := by decide +kernel
theorem dX8_word_57 : decode cX8_word 57 = .ok (.lor, 1) := by decide +kernel
theorem dX8_word_58 : decode cX8_word 58 = .ok (.lastore, 1) := by decide +kernel
theorem dX8_word_59 : decode cX8_word 59 = .ok (.iinc 2 1, 3) := by decide +kernel
theorem dX8_word_62 : decode cX8_word 62 = .ok (.goto (-32), 3) := by decide +kernel
theorem dX8_word_65 : decode cX8_word 65 = .ok (.aload_n 0, 1) := by decide +kernel
theorem dX8_word_66 : decode cX8_word 66 = .ok (.getfield 17, 3) := by decide +kernel
theorem dX8_word_69 : decode cX8_word 69 = .ok (.iload_n 1, 1) := by decide +kernel
theorem dX8_word_70 : decode cX8_word 70 = .ok (.laload, 1) := by decide +kernel
theorem dX8_word_71 : decode cX8_word 71 = .ok (.invokestatic 110, 3) := by decide +kernel
theorem dX8_word_74 : decode cX8_word 74 = .ok (.ireturn, 1) := by decide +kernel
set_option maxRecDepth 20000 in
theorem ggX8_sign_X8_isFigure : GoodIn wsX8_sign wsX8_isFigure := goodIn_r _ [6, 7, 8, 9, 5, 10] (by decide +kernel) (by decide +kernel)
set_option maxRecDepth 20000 in
theorem gX8_sign_X8_isFigure : GoodIn wsX8_sign (va_wsS RX8 106 yX8_isFigure wsX8_isFigure) := goodIn_app (goodIn_of _ (by decide +kernel)) ggX8_sign_X8_isFigure
set_option maxRecDepth 20000 in
theorem ggX8_sign_X8_in : GoodIn wsX8_sign wsX8_in := goodIn_r _ [10] (by decide +kernel) (by decide +kernel)
set_option maxRecDepth 20000 in
theorem gX8_sign_X8_in : GoodIn wsX8_sign (va_wsS RX8 75 yX8_in wsX8_in) := goodIn_app (goodIn_of _ (by decide +kernel)) ggX8_sign_X8_in
theorem dX8_sign_0 : decode cX8_sign 0 = .ok (.iload_n 1, 1) := by decide +kernel
theorem dX8_sign_1 : decode cX8_sign 1 = .ok (.invokestatic 106, 3) := by decide +kernel
theorem dX8_sign_4 : decode cX8_sign 4 = .ok (.ifCond .ne 5, 3) := by decide +kernel
theorem dX8_sign_7 : decode cX8_sign 7 = .ok (.iconst (-1), 1) := by decide +kernel
theorem dX8_sign_8 : decode cX8_sign 8 = .ok (.ireturn, 1) := by decide +kernel
theorem dX8_sign_9 : decode cX8_sign 9 = .ok (.iload_n 2, 1) := by decide +kernel
theorem dX8_sign_10 : decode cX8_sign 10 = .ok (.i2l, 1) := by decide +kernel
theorem dX8_sign_11 : decode cX8_sign 11 = .ok (.lconst 0, 1) := by decide +kernel
theorem dX8_sign_12 : decode cX8_sign 12 = .ok (.ldc2_w 114, 3) := by decide +kernel
theorem dX8_sign_15 : decode cX8_sign 15 = .ok (.invokestatic 75, 3) := by decide +kernel
theorem dX8_sign_18 : decode cX8_sign 18 = .ok (.ifCond .ne 6, 3) := by decide +kernel
theorem dX8_sign_21 : decode cX8_sign 21 = .ok (.bipush (-2), 2) := by decide +kernel
theorem dX8_sign_23 : decode cX8_sign 23 = .ok (.ireturn, 1) := by decide +kernel
theorem dX8_sign_24 : decode cX8_sign 24 = .ok (.aload_n 0, 1) := by decide +kernel
theorem dX8_sign_25 : decode cX8_sign 25 = .ok (.getfield 17, 3) := by decide +kernel
theorem dX8_sign_28 : decode cX8_sign 28 = .ok (.iload_n 1, 1) := by decide +kernel
theorem dX8_sign_29 : decode cX8_sign 29 = .ok (.laload, 1) := by decide +kernel
theorem dX8_sign_30 : decode cX8_sign 30 = .ok (.iconst 4, 1) := by decide +kernel
theorem dX8_sign_31 : decode cX8_sign 31 = .ok (.iload_n 2, 1) := by decide +kernel
theorem dX8_sign_32 : decode cX8_sign 32 = .ok (.imul, 1) := by decide +kernel
theorem dX8_sign_33 : decode cX8_sign 33 = .ok (.lshr, 1) := by decide +kernel
theorem dX8_sign_34 : decode cX8_sign 34 = .ok (.ldc2_w 114, 3) := by decide +kernel
theorem dX8_sign_37 : decode cX8_sign 37 = .ok (.land, 1) := by decide +kernel
theorem dX8_sign_38 : decode cX8_sign 38 = .ok (.l2i, 1) := by decide +kernel
theorem dX8_sign_39 : decode cX8_sign 39 = .ok (.istore_n 3, 1) := by decide +kernel
theorem dX8_sign_40 : decode cX8_sign 40 = .ok (.iload_n 3, 1) := by decide +kernel
theorem dX8_sign_41 : decode cX8_sign 41 = .ok (.bipush 10, 2) := by decide +kernel
theorem dX8_sign_43 : decode cX8_sign 43 = .ok (.if_icmp .ge 10, 3) := by decide +kernel
theorem dX8_sign_46 : decode cX8_sign 46 = .ok (.bipush 48, 2) := by decide +kernel
theorem dX8_sign_48 : decode cX8_sign 48 = .ok (.iload_n 3, 1) := by decide +kernel
theorem dX8_sign_49 : decode cX8_sign 49 = .ok (.iadd, 1) := by decide +kernel
theorem dX8_sign_50 : decode cX8_sign 50 = .ok (.goto 7, 3) := by decide +kernel
theorem dX8_sign_53 : decode cX8_sign 53 = .ok (.bipush 87, 2) := by decide +kernel
theorem dX8_sign_55 : decode cX8_sign 55 = .ok (.iload_n 3, 1) := by decide +kernel
theorem dX8_sign_56 : decode cX8_sign 56 = .ok (.iadd, 1) := by decide +kernel
theorem dX8_sign_57 : decode cX8_sign 57 = .ok (.ireturn, 1) := by decide +kernel
set_option maxRecDepth 20000 in
theorem ggX8_figure_X8_isFigure : GoodIn wsX8_figure wsX8_isFigure := goodIn_r _ [5, 6, 7, 8, 4, 9] (by decide +kernel) (by decide +kernel)
set_option maxRecDepth 20000 in
theorem gX8_figure_X8_isFigure : GoodIn wsX8_figure (va_wsS RX8 106 yX8_isFigure wsX8_isFigure) := goodIn_app (goodIn_of _ (by decide +kernel)) ggX8_figure_X8_isFigure
theorem dX8_figure_0 : decode cX8_figure 0 = .ok (.iload_n 1, 1) := by decide +kernel
theorem dX8_figure_1 : decode cX8_figure 1 = .ok (.invokestatic 106, 3) := by decide +kernel
theorem dX8_figure_4 : decode cX8_figure 4 = .ok (.ifCond .eq 12, 3) := by decide +kernel
theorem dX8_figure_7 : decode cX8_figure 7 = .ok (.aload_n 0, 1) := by decide +kernel
theorem dX8_figure_8 : decode cX8_figure 8 = .ok (.getfield 17, 3) := by decide +kernel
theorem dX8_figure_11 : decode cX8_figure 11 = .ok (.iload_n 1, 1) := by decide +kernel
theorem dX8_figure_12 : decode cX8_figure 12 = .ok (.laload, 1) := by decide +kernel
theorem dX8_figure_13 : decode cX8_figure 13 = .ok (.goto 4, 3) := by decide +kernel
theorem dX8_figure_16 : decode cX8_figure 16 = .ok (.lconst 0, 1) := by decide +kernel
theorem dX8_figure_17 : decode cX8_figure 17 = .ok (.lreturn, 1) := by decide +kernel
set_option maxRecDepth 20000 in
theorem ggX8_set_X8_isFigure : GoodIn wsX8_set wsX8_isFigure := goodIn_r _ [7, 8, 9, 10, 6, 11] (by decide +kernel) (by decide +kernel)
set_option maxRecDepth 20000 in
theorem gX8_set_X8_isFigure : GoodIn wsX8_set (va_wsS RX8 106 yX8_isFigure wsX8_isFigure) := goodIn_app (goodIn_of _ (by decide +kernel)) ggX8_set_X8_isFigure
set_option maxRecDepth 20000 in
theorem ggX8_set_X8_in : GoodIn wsX8_set wsX8_in := goodIn_r _ [11] (by decide +kernel) (by decide +kernel)
set_option maxRecDepth 20000 in
theorem gX8_set_X8_in : GoodIn wsX8_set (va_wsS RX8 75 yX8_in wsX8_in) := goodIn_app (goodIn_of _ (by decide +kernel)) ggX8_set_X8_in
theorem dX8_set_0 : decode cX8_set 0 = .ok (.iload_n 1, 1) := by decide +kernel
theorem dX8_set_1 : decode cX8_set 1 = .ok (.invokestatic 106, 3) := by decide +kernel
theorem dX8_set_4 : decode cX8_set 4 = .ok (.ifCond .eq 15, 3) := by decide +kernel
theorem dX8_set_7 : decode cX8_set 7 = .ok (.iload_n 2, 1) := by decide +kernel
theorem dX8_set_8 : decode cX8_set 8 = .ok (.i2l, 1) := by decide +kernel
theorem dX8_set_9 : decode cX8_set 9 = .ok (.lconst 0, 1) := by decide +kernel
theorem dX8_set_10 : decode cX8_set 10 = .ok (.ldc2_w 116, 3) := by decide +kernel
theorem dX8_set_13 : decode cX8_set 13 = .ok (.invokestatic 75, 3) := by decide +kernel
theorem dX8_set_16 : decode cX8_set 16 = .ok (.ifCond .ne 5, 3) := by decide +kernel
theorem dX8_set_19 : decode cX8_set 19 = .ok (.iconst (-1), 1) := by decide +kernel
theorem dX8_set_20 : decode cX8_set 20 = .ok (.ireturn, 1) := by decide +kernel
theorem dX8_set_21 : decode cX8_set 21 = .ok (.aload_n 0, 1) := by decide +kernel
theorem dX8_set_22 : decode cX8_set 22 = .ok (.getfield 17, 3) := by decide +kernel
theorem dX8_set_25 : decode cX8_set 25 = .ok (.iload_n 1, 1) := by decide +kernel
theorem dX8_set_26 : decode cX8_set 26 = .ok (.laload, 1) := by decide +kernel
theorem dX8_set_27 : decode cX8_set 27 = .ok (.lstore 4, 2) := by decide +kernel
theorem dX8_set_29 : decode cX8_set 29 = .ok (.aload_n 0, 1) := by decide +kernel
theorem dX8_set_30 : decode cX8_set 30 = .ok (.getfield 17, 3) := by decide +kernel
theorem dX8_set_33 : decode cX8_set 33 = .ok (.iload_n 1, 1) := by decide +kernel
theorem dX8_set_34 : decode cX8_set 34 = .ok (.iload_n 3, 1) := by decide +kernel
theorem dX8_set_35 : decode cX8_set 35 = .ok (.ifCond .eq 12, 3) := by decide +kernel
theorem dX8_set_38 : decode cX8_set 38 = .ok (.lload 4, 2) := by decide +kernel
theorem dX8_set_40 : decode cX8_set 40 = .ok (.lconst 1, 1) := by decide +kernel
theorem dX8_set_41 : decode cX8_set 41 = .ok (.iload_n 2, 1) := by decide +kernel
theorem dX8_set_42 : decode cX8_set 42 = .ok (.lshl, 1) := by decide +kernel
theorem dX8_set_43 : decode cX8_set 43 = .ok (.lor, 1) := by decide +kernel
theorem dX8_set_44 : decode cX8_set 44 = .ok (.goto 13, 3) := by decide +kernel
theorem dX8_set_47 : decode cX8_set 47 = .ok (.lload 4, 2) := by decide +kernel
theorem dX8_set_49 : decode cX8_set 49 = .ok (.lconst 1, 1) := by decide +kernel
theorem dX8_set_50 : decode cX8_set 50 = .ok (.iload_n 2, 1) := by decide +kernel
theorem dX8_set_51 : decode cX8_set 51 = .ok (.lshl, 1) := by decide +kernel
theorem dX8_set_52 : decode cX8_set 52 = .ok (.ldc2_w 118, 3) := by decide +kernel
theorem dX8_set_55 : decode cX8_set 55 = .ok (.lxor, 1) := by decide +kernel
theorem dX8_set_56 : decode cX8_set 56 = .ok (.land, 1) := by decide +kernel
theorem dX8_set_57 : decode cX8_set 57 = .ok (.lastore, 1) := by decide +kernel
theorem dX8_set_58 : decode cX8_set 58 = .ok (.lload 4, 2) := by decide +kernel
theorem dX8_set_60 : decode cX8_set 60 = .ok (.aload_n 0, 1) := by decide +kernel
theorem dX8_set_61 : decode cX8_set 61 = .ok (.getfield 17, 3) := by decide +kernel
theorem dX8_set_64 : decode cX8_set 64 = .ok (.iload_n 1, 1) := by decide +kernel
theorem dX8_set_65 : decode cX8_set 65 = .ok (.laload, 1) := by decide +kernel
theorem dX8_set_66 : decode cX8_set 66 = .ok (.lcmp, 1) := by decide +kernel
theorem dX8_set_67 : decode cX8_set 67 = .ok (.ifCond .ne 7, 3) := by decide +kernel
theorem dX8_set_70 : decode cX8_set 70 = .ok (.iconst 0, 1) := by decide +kernel
theorem dX8_set_71 : decode cX8_set 71 = .ok (.goto 4, 3) := by decide +kernel
theorem dX8_set_74 : decode cX8_set 74 = .ok (.iconst 1, 1) := by decide +kernel
theorem dX8_set_75 : decode cX8_set 75 = .ok (.ireturn, 1) := by decide +kernel
set_option maxRecDepth 20000 in
theorem ggX8_size_X8_isFigure : GoodIn wsX8_size wsX8_isFigure := goodIn_r _ [5, 6, 7, 8, 4, 9] (by decide +kernel) (by decide +kernel)
set_option maxRecDepth 20000 in
theorem gX8_size_X8_isFigure : GoodIn wsX8_size (va_wsS RX8 106 yX8_isFigure wsX8_isFigure) := goodIn_app (goodIn_of _ (by decide +kernel)) ggX8_size_X8_isFigure
set_option maxRecDepth 20000 in
theorem ggX8_size_X8_ones : GoodIn wsX8_size wsX8_ones := goodIn_r _ [12] (by decide +kernel) (by decide +kernel)
set_option maxRecDepth 20000 in
theorem gX8_size_X8_ones : GoodIn wsX8_size (va_wsS RX8 110 yX8_ones wsX8_ones) := goodIn_app (goodIn_of _ (by decide +kernel)) ggX8_size_X8_ones
theorem dX8_size_0 : decode cX8_size 0 = .ok (.iload_n 1, 1) := by decide +kernel
theorem dX8_size_1 : decode cX8_size 1 = .ok (.invokestatic 106, 3) := by decide +kernel
theorem dX8_size_4 : decode cX8_size 4 = .ok (.ifCond .eq 15, 3) := by decide +kernel
theorem dX8_size_7 : decode cX8_size 7 = .ok (.aload_n 0, 1) := by decide +kernel
theorem dX8_size_8 : decode cX8_size 8 = .ok (.getfield 17, 3) := by decide +kernel
theorem dX8_size_11 : decode cX8_size 11 = .ok (.iload_n 1, 1) := by decide +kernel
theorem dX8_size_12 : decode cX8_size 12 = .ok (.laload, 1) := by decide +kernel
theorem dX8_size_13 : decode cX8_size 13 = .ok (.invokestatic 110, 3) := by decide +kernel
theorem dX8_size_16 : decode cX8_size 16 = .ok (.goto 4, 3) := by decide +kernel
theorem dX8_size_19 : decode cX8_size 19 = .ok (.iconst (-1), 1) := by decide +kernel
theorem dX8_size_20 : decode cX8_size 20 = .ok (.ireturn, 1) := by decide +kernel
set_option maxRecDepth 20000 in
theorem ggX8_partAt_X8_has : GoodIn wsX8_partAt wsX8_has := goodIn_r _ [5] (by decide +kernel) (by decide +kernel)
set_option maxRecDepth 20000 in
theorem gX8_partAt_X8_has : GoodIn wsX8_partAt (va_wsS RX8 120 yX8_has wsX8_has) := goodIn_app (goodIn_of _ (by decide +kernel)) ggX8_partAt_X8_has
theorem dX8_partAt_0 : decode cX8_partAt 0 = .ok (.lconst 1, 1) := by decide +kernel
theorem dX8_partAt_1 : decode cX8_partAt 1 = .ok (.iload_n 3, 1) := by decide +kernel
theorem dX8_partAt_2 : decode cX8_partAt 2 = .ok (.lshl, 1) := by decide +kernel
theorem dX8_partAt_3 : decode cX8_partAt 3 = .ok (.lstore 4, 2) := by decide +kernel
theorem dX8_partAt_5 : decode cX8_partAt 5 = .ok (.lconst 0, 1) := by decide +kernel
theorem dX8_partAt_6 : decode cX8_partAt 6 = .ok (.lstore 6, 2) := by decide +kernel
theorem dX8_partAt_8 : decode cX8_partAt 8 = .ok (.lload 4, 2) := by decide +kernel
theorem dX8_partAt_10 : decode cX8_partAt 10 = .ok (.lload 6, 2) := by decide +kernel
theorem dX8_partAt_12 : decode cX8_partAt 12 = .ok (.lcmp, 1) := by decide +kernel
theorem dX8_partAt_13 : decode cX8_partAt 13 = .ok (.ifCond .eq 54, 3) := by decide +kernel
theorem dX8_partAt_16 : decode cX8_partAt 16 = .ok (.lload 4, 2) := by decide +kernel
theorem dX8_partAt_18 : decode cX8_partAt 18 = .ok (.lstore 6, 2) := by decide +kernel
theorem dX8_partAt_20 : decode cX8_partAt 20 = .ok (.iconst 0, 1) := by decide +kernel
theorem dX8_partAt_21 : decode cX8_partAt 21 = .ok (.istore 8, 2) := by decide +kernel
theorem dX8_partAt_23 : decode cX8_partAt 23 = .ok (.iload 8, 2) := by decide +kernel
theorem dX8_partAt_25 : decode cX8_partAt 25 = .ok (.bipush 64, 2) := by decide +kernel
theorem dX8_partAt_27 : decode cX8_partAt 27 = .ok (.if_icmp .ge 37, 3) := by decide +kernel
theorem dX8_partAt_30 : decode cX8_partAt 30 = .ok (.lload 4, 2) := by decide +kernel
theorem dX8_partAt_32 : decode cX8_partAt 32 = .ok (.lload 4, 2) := by decide +kernel
theorem dX8_partAt_34 : decode cX8_partAt 34 = .ok (.iload 8, 2) := by decide +kernel
theorem dX8_partAt_36 : decode cX8_partAt 36 = .ok (.invokestatic 120, 3) := by decide +kernel
theorem dX8_partAt_39 : decode cX8_partAt 39 = .ok (.ifCond .eq 15, 3) := by decide +kernel
theorem dX8_partAt_42 : decode cX8_partAt 42 = .ok (.aload_n 0, 1) := by decide +kernel
theorem dX8_partAt_43 : decode cX8_partAt 43 = .ok (.getfield 7, 3) := by decide +kernel
theorem dX8_partAt_46 : decode cX8_partAt 46 = .ok (.iload 8, 2) := by decide +kernel
theorem dX8_partAt_48 : decode cX8_partAt 48 = .ok (.laload, 1) := by decide +kernel
theorem dX8_partAt_49 : decode cX8_partAt 49 = .ok (.lload_n 1, 1) := by decide +kernel
theorem dX8_partAt_50 : decode cX8_partAt 50 = .ok (.land, 1) := by decide +kernel
theorem dX8_partAt_51 : decode cX8_partAt 51 = .ok (.goto 4, 3) := by decide +kernel
theorem dX8_partAt_54 : decode cX8_partAt 54 = .ok (.lconst 0, 1) := by decide +kernel
theorem dX8_partAt_55 : decode cX8_partAt 55 = .ok (.lor, 1) := by decide +kernel
theorem dX8_partAt_56 : decode cX8_partAt 56 = .ok (.lstore 4, 2) := by decide +kernel
theorem dX8_partAt_58 : decode cX8_partAt 58 = .ok (.iinc 8 1, 3) := by decide +kernel
theorem dX8_partAt_61 : decode cX8_partAt 61 = .ok (.goto (-38), 3) := by decide +kernel
theorem dX8_partAt_64 : decode cX8_partAt 64 = .ok (.goto (-56), 3) := by decide +kernel
theorem dX8_partAt_67 : decode cX8_partAt 67 = .ok (.lload 4, 2) := by decide +kernel
theorem dX8_partAt_69 : decode cX8_partAt 69 = .ok (.lreturn, 1) := by decide +kernel
set_option maxRecDepth 20000 in
theorem ggX8_partOf_X8_has : GoodIn wsX8_partOf wsX8_has := goodIn_r _ [5] (by decide +kernel) (by decide +kernel)
set_option maxRecDepth 20000 in
theorem gX8_partOf_X8_has : GoodIn wsX8_partOf (va_wsS RX8 120 yX8_has wsX8_has) := goodIn_app (goodIn_of _ (by decide +kernel)) ggX8_partOf_X8_has
set_option maxRecDepth 20000 in
theorem ggX8_partOf_X8_partAt : GoodIn wsX8_partOf wsX8_partAt := goodIn_r _ [9, 10, 2, 3, 4, 5, 11, 12, 13, 14, 15, 16, 17, 18, 19, 20, 21, 22, 23, 24, 25, 26, 27, 28, 29, 30, 31, 32, 33] (by decide +kernel) (by decide +kernel)
set_option maxRecDepth 20000 in
theorem gX8_partOf_X8_partAt : GoodIn wsX8_partOf (wsV RX8 124 RX8 yX8_partAt wsX8_partAt) := goodIn_app (goodIn_of _ (by decide +kernel)) ggX8_partOf_X8_partAt
theorem dX8_partOf_0 : decode cX8_partOf 0 = .ok (.lload_n 1, 1) := by decide +kernel
theorem dX8_partOf_1 : decode cX8_partOf 1 = .ok (.lstore 4, 2) := by decide +kernel
theorem dX8_partOf_3 : decode cX8_partOf 3 = .ok (.iconst 0, 1) := by decide +kernel
theorem dX8_partOf_4 : decode cX8_partOf 4 = .ok (.istore 6, 2) := by decide +kernel
theorem dX8_partOf_6 : decode cX8_partOf 6 = .ok (.iconst 0, 1) := by decide +kernel
theorem dX8_partOf_7 : decode cX8_partOf 7 = .ok (.istore 7, 2) := by decide +kernel
theorem dX8_partOf_9 : decode cX8_partOf 9 = .ok (.iload 7, 2) := by decide +kernel
theorem dX8_partOf_11 : decode cX8_partOf 11 = .ok (.bipush 64, 2) := by decide +kernel
theorem dX8_partOf_13 : decode cX8_partOf 13 = .ok (.if_icmp .ge 51, 3) := by decide +kernel
theorem dX8_partOf_16 : decode cX8_partOf 16 = .ok (.lload 4, 2) := by decide +kernel
theorem dX8_partOf_18 : decode cX8_partOf 18 = .ok (.iload 7, 2) := by decide +kernel
theorem dX8_partOf_20 : decode cX8_partOf 20 = .ok (.invokestatic 120, 3) := by decide +kernel
theorem dX8_partOf_23 : decode cX8_partOf 23 = .ok (.ifCond .eq 35, 3) := by decide +kernel
theorem dX8_partOf_26 : decode cX8_partOf 26 = .ok (.aload_n 0, 1) := by decide +kernel
theorem dX8_partOf_27 : decode cX8_partOf 27 = .ok (.lload_n 1, 1) := by decide +kernel
theorem dX8_partOf_28 : decode cX8_partOf 28 = .ok (.iload 7, 2) := by decide +kernel
theorem dX8_partOf_30 : decode cX8_partOf 30 = .ok (.invokevirtual 124, 3) := by decide +kernel
theorem dX8_partOf_33 : decode cX8_partOf 33 = .ok (.lstore 8, 2) := by decide +kernel
theorem dX8_partOf_35 : decode cX8_partOf 35 = .ok (.iload 6, 2) := by decide +kernel
theorem dX8_partOf_37 : decode cX8_partOf 37 = .ok (.iload_n 3, 1) := by decide +kernel
theorem dX8_partOf_38 : decode cX8_partOf 38 = .ok (.if_icmp .ne 6, 3) := by decide +kernel
theorem dX8_partOf_41 : decode cX8_partOf 41 = .ok (.lload 8, 2) := by decide +kernel
theorem dX8_partOf_43 : decode cX8_partOf 43 = .ok (.lreturn, 1) := by decide +kernel
theorem dX8_partOf_44 : decode cX8_partOf 44 = .ok (.iinc 6 1, 3) := by decide +kernel
theorem dX8_partOf_47 : decode cX8_partOf 47 = .ok (.lload 4, 2) := by decide +kernel
theorem dX8_partOf_49 : decode cX8_partOf 49 = .ok (.lload 8, 2) := by decide +kernel
theorem dX8_partOf_51 : decode cX8_partOf 51 = .ok (.ldc2_w 118, 3) := by decide +kernel
theorem dX8_partOf_54 : decode cX8_partOf 54 = .ok (.lxor, 1) := by decide +kernel
theorem dX8_partOf_55 : decode cX8_partOf 55 = .ok (.land, 1) := by decide +kernel
theorem dX8_partOf_56 : decode cX8_partOf 56 = .ok (.lstore 4, 2) := by decide +kernel
theorem dX8_partOf_58 : decode cX8_partOf 58 = .ok (.iinc 7 1, 3) := by decide +kernel
theorem dX8_partOf_61 : decode cX8_partOf 61 = .ok (.goto (-52), 3) := by decide +kernel
theorem dX8_partOf_64 : decode cX8_partOf 64 = .ok (.lconst 0, 1) := by decide +kernel
theorem dX8_partOf_65 : decode cX8_partOf 65 = .ok (.lreturn, 1) := by decide +kernel
set_option maxRecDepth 20000 in
theorem ggX8_partsOf_X8_partOf : GoodIn wsX8_partsOf wsX8_partOf := goodIn_r _ [5, 6, 7, 8, 4, 9, 10, 11, 12, 13, 14, 15, 16, 17, 18, 19, 20, 21, 22, 23, 24, 25, 26, 27, 28, 29, 30, 31, 32, 33, 34, 35, 36, 37] (by decide +kernel) (by decide +kernel)
set_option maxRecDepth 20000 in
theorem gX8_partsOf_X8_partOf : GoodIn wsX8_partsOf (wsV RX8 128 RX8 yX8_partOf wsX8_partOf) := goodIn_app (goodIn_of _ (by decide +kernel)) ggX8_partsOf_X8_partOf
theorem dX8_partsOf_0 : decode cX8_partsOf 0 = .ok (.iconst 0, 1) := by decide +kernel
theorem dX8_partsOf_1 : decode cX8_partsOf 1 = .ok (.istore_n 3, 1) := by decide +kernel
theorem dX8_partsOf_2 : decode cX8_partsOf 2 = .ok (.aload_n 0, 1) := by decide +kernel
theorem dX8_partsOf_3 : decode cX8_partsOf 3 = .ok (.lload_n 1, 1) := by decide +kernel
theorem dX8_partsOf_4 : decode cX8_partsOf 4 = .ok (.iload_n 3, 1) := by decide +kernel
theorem dX8_partsOf_5 : decode cX8_partsOf 5 = .ok (.invokevirtual 128, 3) := by decide +kernel
theorem dX8_partsOf_8 : decode cX8_partsOf 8 = .ok (.lconst 0, 1) := by decide +kernel
theorem dX8_partsOf_9 : decode cX8_partsOf 9 = .ok (.lcmp, 1) := by decide +kernel
theorem dX8_partsOf_10 : decode cX8_partsOf 10 = .ok (.ifCond .eq 9, 3) := by decide +kernel
theorem dX8_partsOf_13 : decode cX8_partsOf 13 = .ok (.iinc 3 1, 3) := by decide +kernel
theorem dX8_partsOf_16 : decode cX8_partsOf 16 = .ok (.goto (-14), 3) := by decide +kernel
theorem dX8_partsOf_19 : decode cX8_partsOf 19 = .ok (.iload_n 3, 1) := by decide +kernel
theorem dX8_partsOf_20 : decode cX8_partsOf 20 = .ok (.ireturn, 1) := by decide +kernel
set_option maxRecDepth 20000 in
theorem ggX8_parts_X8_isFigure : GoodIn wsX8_parts wsX8_isFigure := goodIn_r _ [5, 6, 7, 8, 4, 9] (by decide +kernel) (by decide +kernel)
set_option maxRecDepth 20000 in
theorem gX8_parts_X8_isFigure : GoodIn wsX8_parts (va_wsS RX8 106 yX8_isFigure wsX8_isFigure) := goodIn_app (goodIn_of _ (by decide +kernel)) ggX8_parts_X8_isFigure
set_option maxRecDepth 20000 in
theorem ggX8_parts_X8_partsOf : GoodIn wsX8_parts wsX8_partsOf := goodIn_r _ [13, 14, 15, 16, 4, 17, 18, 19, 20, 21, 22, 23, 24, 25, 26, 27, 28, 29, 30, 31, 32, 33, 34, 35, 36, 37, 38, 39, 40, 41, 42, 43, 44, 45, 46, 47, 48, 49] (by decide +kernel) (by decide +kernel)
set_option maxRecDepth 20000 in
theorem gX8_parts_X8_partsOf : GoodIn wsX8_parts (wsV RX8 131 RX8 yX8_partsOf wsX8_partsOf) := goodIn_app (goodIn_of _ (by decide +kernel)) ggX8_parts_X8_partsOf
theorem dX8_parts_0 : decode cX8_parts 0 = .ok (.iload_n 1, 1) := by decide +kernel
theorem dX8_parts_1 : decode cX8_parts 1 = .ok (.invokestatic 106, 3) := by decide +kernel
theorem dX8_parts_4 : decode cX8_parts 4 = .ok (.ifCond .eq 16, 3) := by decide +kernel
theorem dX8_parts_7 : decode cX8_parts 7 = .ok (.aload_n 0, 1) := by decide +kernel
theorem dX8_parts_8 : decode cX8_parts 8 = .ok (.aload_n 0, 1) := by decide +kernel
theorem dX8_parts_9 : decode cX8_parts 9 = .ok (.getfield 17, 3) := by decide +kernel
theorem dX8_parts_12 : decode cX8_parts 12 = .ok (.iload_n 1, 1) := by decide +kernel
theorem dX8_parts_13 : decode cX8_parts 13 = .ok (.laload, 1) := by decide +kernel
theorem dX8_parts_14 : decode cX8_parts 14 = .ok (.invokevirtual 131, 3) := by decide +kernel
theorem dX8_parts_17 : decode cX8_parts 17 = .ok (.goto 4, 3) := by decide +kernel
theorem dX8_parts_20 : decode cX8_parts 20 = .ok (.iconst (-1), 1) := by decide +kernel
theorem dX8_parts_21 : decode cX8_parts 21 = .ok (.ireturn, 1) := by decide +kernel
set_option maxRecDepth 20000 in
theorem ggX8_holesOf_X8_partOf : GoodIn wsX8_holesOf wsX8_partOf := goodIn_r _ [6, 1, 7, 8, 5, 9, 10, 11, 12, 13, 14, 22, 23, 24, 25, 26, 27, 28, 29, 30, 31, 32, 33, 34, 35, 36, 37, 38, 39, 40, 41, 42, 43, 44] (by decide +kernel) (by decide +kernel)
set_option maxRecDepth 20000 in
theorem gX8_holesOf_X8_partOf : GoodIn wsX8_holesOf (wsV RX8 128 RX8 yX8_partOf wsX8_partOf) := goodIn_app (goodIn_of _ (by decide +kernel)) ggX8_holesOf_X8_partOf
set_option maxRecDepth 20000 in
theorem ggX8_holesOf_X8_has : GoodIn wsX8_holesOf wsX8_has := goodIn_r _ [9] (by decide +kernel) (by decide +kernel)
set_option maxRecDepth 20000 in
theorem gX8_holesOf_X8_has : GoodIn wsX8_holesOf (va_wsS RX8 120 yX8_has wsX8_has) := goodIn_app (goodIn_of _ (by decide +kernel)) ggX8_holesOf_X8_has
set_option maxRecDepth 20000 in
theorem ggX8_holesOf_X8_beside : GoodIn wsX8_holesOf wsX8_beside := goodIn_r _ [17, 18, 19, 20, 5, 21] (by decide +kernel) (by decide +kernel)
set_option maxRecDepth 20000 in
theorem gX8_holesOf_X8_beside : GoodIn wsX8_holesOf (va_wsS RX8 69 yX8_beside wsX8_beside) := goodIn_app (goodIn_of _ (by decide +kernel)) ggX8_holesOf_X8_beside
theorem dX8_holesOf_0 : decode cX8_holesOf 0 = .ok (.iconst 0, 1) := by decide +kernel
theorem dX8_holesOf_1 : decode cX8_holesOf 1 = .ok (.istore_n 3, 1) := by decide +kernel
theorem dX8_holesOf_2 : decode cX8_holesOf 2 = .ok (.iconst 0, 1) := by decide +kernel
theorem dX8_holesOf_3 : decode cX8_holesOf 3 = .ok (.istore 4, 2) := by decide +kernel
theorem dX8_holesOf_5 : decode cX8_holesOf 5 = .ok (.aload_n 0, 1) := by decide +kernel
theorem dX8_holesOf_6 : decode cX8_holesOf 6 = .ok (.lload_n 1, 1) := by decide +kernel
theorem dX8_holesOf_7 : decode cX8_holesOf 7 = .ok (.ldc2_w 118, 3) := by decide +kernel
theorem dX8_holesOf_10 : decode cX8_holesOf 10 = .ok (.lxor, 1) := by decide +kernel
theorem dX8_holesOf_11 : decode cX8_holesOf 11 = .ok (.iload 4, 2) := by decide +kernel
theorem dX8_holesOf_13 : decode cX8_holesOf 13 = .ok (.invokevirtual 128, 3) := by decide +kernel
theorem dX8_holesOf_16 : decode cX8_holesOf 16 = .ok (.lconst 0, 1) := by decide +kernel
theorem dX8_holesOf_17 : decode cX8_holesOf 17 = .ok (.lcmp, 1) := by decide +kernel
theorem dX8_holesOf_18 : decode cX8_holesOf 18 = .ok (.ifCond .eq 86, 3) := by decide +kernel
theorem dX8_holesOf_21 : decode cX8_holesOf 21 = .ok (.aload_n 0, 1) := by decide +kernel
theorem dX8_holesOf_22 : decode cX8_holesOf 22 = .ok (.lload_n 1, 1) := by decide +kernel
theorem dX8_holesOf_23 : decode cX8_holesOf 23 = .ok (.ldc2_w 118, 3) := by decide +kernel
theorem dX8_holesOf_26 : decode cX8_holesOf 26 = .ok (.lxor, 1) := by decide +kernel
theorem dX8_holesOf_27 : decode cX8_holesOf 27 = .ok (.iload 4, 2) := by decide +kernel
theorem dX8_holesOf_29 : decode cX8_holesOf 29 = .ok (.invokevirtual 128, 3) := by decide +kernel
theorem dX8_holesOf_32 : decode cX8_holesOf 32 = .ok (.lstore 5, 2) := by decide +kernel
theorem dX8_holesOf_34 : decode cX8_holesOf 34 = .ok (.iconst 0, 1) := by decide +kernel
theorem dX8_holesOf_35 : decode cX8_holesOf 35 = .ok (.istore 7, 2) := by decide +kernel
theorem dX8_holesOf_37 : decode cX8_holesOf 37 = .ok (.iconst 0, 1) := by decide +kernel
theorem dX8_holesOf_38 : decode cX8_holesOf 38 = .ok (.istore 8, 2) := by decide +kernel
theorem dX8_holesOf_40 : decode cX8_holesOf 40 = .ok (.iload 8, 2) := by decide +kernel
theorem dX8_holesOf_42 : decode cX8_holesOf 42 = .ok (.bipush 64, 2) := by decide +kernel
theorem dX8_holesOf_44 : decode cX8_holesOf 44 = .ok (.if_icmp .ge 41, 3) := by decide +kernel
theorem dX8_holesOf_47 : decode cX8_holesOf 47 = .ok (.iload 7, 2) := by decide +kernel
theorem dX8_holesOf_49 : decode cX8_holesOf 49 = .ok (.ifCond .ne 23, 3) := by decide +kernel
theorem dX8_holesOf_52 : decode cX8_holesOf 52 = .ok (.lload 5, 2) := by decide +kernel
theorem dX8_holesOf_54 : decode cX8_holesOf 54 = .ok (.iload 8, 2) := by decide +kernel
theorem dX8_holesOf_56 : decode cX8_holesOf 56 = .ok (.invokestatic 120, 3) := by decide +kernel
theorem dX8_holesOf_59 : decode cX8_holesOf 59 = .ok (.ifCond .eq 17, 3) := by decide +kernel
theorem dX8_holesOf_62 : decode cX8_holesOf 62 = .ok (.iload 8, 2) := by decide +kernel
theorem dX8_holesOf_64 : decode cX8_holesOf 64 = .ok (.invokestatic 69, 3) := by decide +kernel
theorem dX8_holesOf_67 : decode cX8_holesOf 67 = .ok (.bipush (-9), 2) := by decide +kernel
theorem dX8_holesOf_69 : decode cX8_holesOf 69 = .ok (.if_icmp .ne 7, 3) := by decide +kernel
theorem dX8_holesOf_72 : decode cX8_holesOf 72 = .ok (.iconst 1, 1) := by decide +kernel
theorem dX8_holesOf_73 : decode cX8_holesOf 73 = .ok (.goto 4, 3) := by decide +kernel
theorem dX8_holesOf_76 : decode cX8_holesOf 76 = .ok (.iconst 0, 1) := by decide +kernel
theorem dX8_holesOf_77 : decode cX8_holesOf 77 = .ok (.istore 7, 2) := by decide +kernel
theorem dX8_holesOf_79 : decode cX8_holesOf 79 = .ok (.iinc 8 1, 3) := by decide +kernel
theorem dX8_holesOf_82 : decode cX8_holesOf 82 = .ok (.goto (-42), 3) := by decide +kernel
theorem dX8_holesOf_85 : decode cX8_holesOf 85 = .ok (.iload_n 3, 1) := by decide +kernel
theorem dX8_holesOf_86 : decode cX8_holesOf 86 = .ok (.iload 7, 2) := by decide +kernel
theorem dX8_holesOf_88 : decode cX8_holesOf 88 = .ok (.ifCond .eq 7, 3) := by decide +kernel
theorem dX8_holesOf_91 : decode cX8_holesOf 91 = .ok (.iconst 0, 1) := by decide +kernel
theorem dX8_holesOf_92 : decode cX8_holesOf 92 = .ok (.goto 4, 3) := by decide +kernel
theorem dX8_holesOf_95 : decode cX8_holesOf 95 = .ok (.iconst 1, 1) := by decide +kernel
theorem dX8_holesOf_96 : decode cX8_holesOf 96 = .ok (.iadd, 1) := by decide +kernel
theorem dX8_holesOf_97 : decode cX8_holesOf 97 = .ok (.istore_n 3, 1) := by decide +kernel
theorem dX8_holesOf_98 : decode cX8_holesOf 98 = .ok (.iinc 4 1, 3) := by decide +kernel
theorem dX8_holesOf_101 : decode cX8_holesOf 101 = .ok (.goto (-96), 3) := by decide +kernel
theorem dX8_holesOf_104 : decode cX8_holesOf 104 = .ok (.iload_n 3, 1) := by decide +kernel
theorem dX8_holesOf_105 : decode cX8_holesOf 105 = .ok (.ireturn, 1) := by decide +kernel
set_option maxRecDepth 20000 in
theorem ggX8_holes_X8_isFigure : GoodIn wsX8_holes wsX8_isFigure := goodIn_r _ [5, 6, 7, 8, 4, 9] (by decide +kernel) (by decide +kernel)
set_option maxRecDepth 20000 in
theorem gX8_holes_X8_isFigure : GoodIn wsX8_holes (va_wsS RX8 106 yX8_isFigure wsX8_isFigure) := goodIn_app (goodIn_of _ (by decide +kernel)) ggX8_holes_X8_isFigure
set_option maxRecDepth 20000 in
theorem ggX8_holes_X8_holesOf : GoodIn wsX8_holes wsX8_holesOf := goodIn_r _ [13, 14, 15, 16, 17, 4, 18, 19, 20, 21, 22, 23, 24, 25, 26, 27, 28, 29, 30, 7, 8, 9, 31, 32, 33, 34, 35, 36, 37, 38, 39, 40, 41, 42, 43, 44, 45, 46, 47, 48, 49, 50, 51, 52, 53] (by decide +kernel) (by decide +kernel)
set_option maxRecDepth 20000 in
theorem gX8_holes_X8_holesOf : GoodIn wsX8_holes (wsV RX8 134 RX8 yX8_holesOf wsX8_holesOf) := goodIn_app (goodIn_of _ (by decide +kernel)) ggX8_holes_X8_holesOf
theorem dX8_holes_0 : decode cX8_holes 0 = .ok (.iload_n 1, 1) := by decide +kernel
theorem dX8_holes_1 : decode cX8_holes 1 = .ok (.invokestatic 106, 3) := by decide +kernel
theorem dX8_holes_4 : decode cX8_holes 4 = .ok (.ifCond .eq 16, 3) := by decide +kernel
theorem dX8_holes_7 : decode cX8_holes 7 = .ok (.aload_n 0, 1) := by decide +kernel
theorem dX8_holes_8 : decode cX8_holes 8 = .ok (.aload_n 0, 1) := by decide +kernel
theorem dX8_holes_9 : decode cX8_holes 9 = .ok (.getfield 17, 3) := by decide +kernel
theorem dX8_holes_12 : decode cX8_holes 12 = .ok (.iload_n 1, 1) := by decide +kernel
theorem dX8_holes_13 : decode cX8_holes 13 = .ok (.laload, 1) := by decide +kernel
theorem dX8_holes_14 : decode cX8_holes 14 = .ok (.invokevirtual 134, 3) := by decide +kernel
theorem dX8_holes_17 : decode cX8_holes 17 = .ok (.goto 4, 3) := by decide +kernel
theorem dX8_holes_20 : decode cX8_holes 20 = .ok (.iconst (-1), 1) := by decide +kernel
theorem dX8_holes_21 : decode cX8_holes 21 = .ok (.ireturn, 1) := by decide +kernel
set_option maxRecDepth 20000 in
theorem ggX8_edges_X8_isFigure : GoodIn wsX8_edges wsX8_isFigure := goodIn_r _ [5, 6, 7, 8, 4, 9] (by decide +kernel) (by decide +kernel)
set_option maxRecDepth 20000 in
theorem gX8_edges_X8_isFigure : GoodIn wsX8_edges (va_wsS RX8 106 yX8_isFigure wsX8_isFigure) := goodIn_app (goodIn_of _ (by decide +kernel)) ggX8_edges_X8_isFigure
set_option maxRecDepth 20000 in
theorem ggX8_edges_X8_has : GoodIn wsX8_edges wsX8_has := goodIn_r _ [12] (by decide +kernel) (by decide +kernel)
set_option maxRecDepth 20000 in
theorem gX8_edges_X8_has : GoodIn wsX8_edges (va_wsS RX8 120 yX8_has wsX8_has) := goodIn_app (goodIn_of _ (by decide +kernel)) ggX8_edges_X8_has
set_option maxRecDepth 20000 in
theorem ggX8_edges_X8_beside : GoodIn wsX8_edges wsX8_beside := goodIn_r _ [15, 16, 7, 8, 4, 9] (by decide +kernel) (by decide +kernel)
set_option maxRecDepth 20000 in
theorem gX8_edges_X8_beside : GoodIn wsX8_edges (va_wsS RX8 69 yX8_beside wsX8_beside) := goodIn_app (goodIn_of _ (by decide +kernel)) ggX8_edges_X8_beside
theorem dX8_edges_0 : decode cX8_edges 0 = .ok (.iload_n 1, 1) := by decide +kernel
theorem dX8_edges_1 : decode cX8_edges 1 = .ok (.invokestatic 106, 3) := by decide +kernel
theorem dX8_edges_4 : decode cX8_edges 4 = .ok (.ifCond .ne 5, 3) := by decide +kernel
theorem dX8_edges_7 : decode cX8_edges 7 = .ok (.iconst (-1), 1) := by decide +kernel
theorem dX8_edges_8 : decode cX8_edges 8 = .ok (.ireturn, 1) := by decide +kernel
theorem dX8_edges_9 : decode cX8_edges 9 = .ok (.iconst 0, 1) := by decide +kernel
theorem dX8_edges_10 : decode cX8_edges 10 = .ok (.istore_n 3, 1) := by decide +kernel
theorem dX8_edges_11 : decode cX8_edges 11 = .ok (.iconst 0, 1) := by decide +kernel
theorem dX8_edges_12 : decode cX8_edges 12 = .ok (.istore 4, 2) := by decide +kernel
theorem dX8_edges_14 : decode cX8_edges 14 = .ok (.iload 4, 2) := by decide +kernel
theorem dX8_edges_16 : decode cX8_edges 16 = .ok (.bipush 64, 2) := by decide +kernel
theorem dX8_edges_18 : decode cX8_edges 18 = .ok (.if_icmp .ge 110, 3) := by decide +kernel
theorem dX8_edges_21 : decode cX8_edges 21 = .ok (.aload_n 0, 1) := by decide +kernel
theorem dX8_edges_22 : decode cX8_edges 22 = .ok (.getfield 17, 3) := by decide +kernel
theorem dX8_edges_25 : decode cX8_edges 25 = .ok (.iload_n 1, 1) := by decide +kernel
theorem dX8_edges_26 : decode cX8_edges 26 = .ok (.laload, 1) := by decide +kernel
theorem dX8_edges_27 : decode cX8_edges 27 = .ok (.iload 4, 2) := by decide +kernel
theorem dX8_edges_29 : decode cX8_edges 29 = .ok (.invokestatic 120, 3) := by decide +kernel
theorem dX8_edges_32 : decode cX8_edges 32 = .ok (.istore 5, 2) := by decide +kernel
theorem dX8_edges_34 : decode cX8_edges 34 = .ok (.iload 4, 2) := by decide +kernel
theorem dX8_edges_36 : decode cX8_edges 36 = .ok (.iload 4, 2) := by decide +kernel
theorem dX8_edges_38 : decode cX8_edges 38 = .ok (.iconst 4, 1) := by decide +kernel
theorem dX8_edges_39 : decode cX8_edges 39 = .ok (.irem, 1) := by decide +kernel
theorem dX8_edges_40 : decode cX8_edges 40 = .ok (.isub, 1) := by decide +kernel
theorem dX8_edges_41 : decode cX8_edges 41 = .ok (.iload 4, 2) := by decide +kernel
theorem dX8_edges_43 : decode cX8_edges 43 = .ok (.iconst 1, 1) := by decide +kernel
theorem dX8_edges_44 : decode cX8_edges 44 = .ok (.iadd, 1) := by decide +kernel
theorem dX8_edges_45 : decode cX8_edges 45 = .ok (.iconst 4, 1) := by decide +kernel
theorem dX8_edges_46 : decode cX8_edges 46 = .ok (.irem, 1) := by decide +kernel
theorem dX8_edges_47 : decode cX8_edges 47 = .ok (.iadd, 1) := by decide +kernel
theorem dX8_edges_48 : decode cX8_edges 48 = .ok (.istore 6, 2) := by decide +kernel
theorem dX8_edges_50 : decode cX8_edges 50 = .ok (.iload 4, 2) := by decide +kernel
theorem dX8_edges_52 : decode cX8_edges 52 = .ok (.invokestatic 69, 3) := by decide +kernel
theorem dX8_edges_55 : decode cX8_edges 55 = .ok (.istore 7, 2) := by decide +kernel
theorem dX8_edges_57 : decode cX8_edges 57 = .ok (.iload_n 2, 1) := by decide +kernel
theorem dX8_edges_58 : decode cX8_edges 58 = .ok (.ifCond .eq 30, 3) := by decide +kernel
theorem dX8_edges_61 : decode cX8_edges 61 = .ok (.iload_n 3, 1) := by decide +kernel
theorem dX8_edges_62 : decode cX8_edges 62 = .ok (.iload 5, 2) := by decide +kernel
theorem dX8_edges_64 : decode cX8_edges 64 = .ok (.aload_n 0, 1) := by decide +kernel
theorem dX8_edges_65 : decode cX8_edges 65 = .ok (.getfield 17, 3) := by decide +kernel
theorem dX8_edges_68 : decode cX8_edges 68 = .ok (.iload_n 1, 1) := by decide +kernel
theorem dX8_edges_69 : decode cX8_edges 69 = .ok (.laload, 1) := by decide +kernel
theorem dX8_edges_70 : decode cX8_edges 70 = .ok (.iload 6, 2) := by decide +kernel
theorem dX8_edges_72 : decode cX8_edges 72 = .ok (.invokestatic 120, 3) := by decide +kernel
theorem dX8_edges_75 : decode cX8_edges 75 = .ok (.if_icmp .eq 7, 3) := by decide +kernel
theorem dX8_edges_78 : decode cX8_edges 78 = .ok (.iconst 1, 1) := by decide +kernel
theorem dX8_edges_79 : decode cX8_edges 79 = .ok (.goto 4, 3) := by decide +kernel
theorem dX8_edges_82 : decode cX8_edges 82 = .ok (.iconst 0, 1) := by decide +kernel
theorem dX8_edges_83 : decode cX8_edges 83 = .ok (.iadd, 1) := by decide +kernel
theorem dX8_edges_84 : decode cX8_edges 84 = .ok (.istore_n 3, 1) := by decide +kernel
theorem dX8_edges_85 : decode cX8_edges 85 = .ok (.goto 37, 3) := by decide +kernel
theorem dX8_edges_88 : decode cX8_edges 88 = .ok (.iload_n 3, 1) := by decide +kernel
theorem dX8_edges_89 : decode cX8_edges 89 = .ok (.iload 5, 2) := by decide +kernel
theorem dX8_edges_91 : decode cX8_edges 91 = .ok (.ifCond .eq 28, 3) := by decide +kernel
theorem dX8_edges_94 : decode cX8_edges 94 = .ok (.iload 7, 2) := by decide +kernel
theorem dX8_edges_96 : decode cX8_edges 96 = .ok (.bipush (-9), 2) := by decide +kernel
theorem dX8_edges_98 : decode cX8_edges 98 = .ok (.if_icmp .eq 17, 3) := by decide +kernel
theorem dX8_edges_101 : decode cX8_edges 101 = .ok (.aload_n 0, 1) := by decide +kernel
theorem dX8_edges_102 : decode cX8_edges 102 = .ok (.getfield 17, 3) := by decide +kernel
theorem dX8_edges_105 : decode cX8_edges 105 = .ok (.iload_n 1, 1) := by decide +kernel
theorem dX8_edges_106 : decode cX8_edges 106 = .ok (.laload, 1) := by decide +kernel
theorem dX8_edges_107 : decode cX8_edges 107 = .ok (.iload 7, 2) := by decide +kernel
theorem dX8_edges_109 : decode cX8_edges 109 = .ok (.invokestatic 120, 3) := by decide +kernel
theorem dX8_edges_112 : decode cX8_edges 112 = .ok (.ifCond .ne 7, 3) := by decide +kernel
theorem dX8_edges_115 : decode cX8_edges 115 = .ok (.iconst 1, 1) := by decide +kernel
theorem dX8_edges_116 : decode cX8_edges 116 = .ok (.goto 4, 3) := by decide +kernel
theorem dX8_edges_119 : decode cX8_edges 119 = .ok (.iconst 0, 1) := by decide +kernel
theorem dX8_edges_120 : decode cX8_edges 120 = .ok (.iadd, 1) := by decide +kernel
theorem dX8_edges_121 : decode cX8_edges 121 = .ok (.istore_n 3, 1) := by decide +kernel
theorem dX8_edges_122 : decode cX8_edges 122 = .ok (.iinc 4 1, 3) := by decide +kernel
theorem dX8_edges_125 : decode cX8_edges 125 = .ok (.goto (-111), 3) := by decide +kernel
theorem dX8_edges_128 : decode cX8_edges 128 = .ok (.iload_n 3, 1) := by decide +kernel
theorem dX8_edges_129 : decode cX8_edges 129 = .ok (.ireturn, 1) := by decide +kernel
set_option maxRecDepth 20000 in
theorem ggX8_layCorner_X8_in : GoodIn wsX8_layCorner wsX8_in := goodIn_r _ [6] (by decide +kernel) (by decide +kernel)
set_option maxRecDepth 20000 in
theorem gX8_layCorner_X8_in : GoodIn wsX8_layCorner (va_wsS RX8 75 yX8_in wsX8_in) := goodIn_app (goodIn_of _ (by decide +kernel)) ggX8_layCorner_X8_in
set_option maxRecDepth 20000 in
theorem ggX8_layCorner_X8_has : GoodIn wsX8_layCorner wsX8_has := goodIn_r _ [9] (by decide +kernel) (by decide +kernel)
set_option maxRecDepth 20000 in
theorem gX8_layCorner_X8_has : GoodIn wsX8_layCorner (va_wsS RX8 120 yX8_has wsX8_has) := goodIn_app (goodIn_of _ (by decide +kernel)) ggX8_layCorner_X8_has
theorem dX8_layCorner_0 : decode cX8_layCorner 0 = .ok (.iconst 0, 1) := by decide +kernel
theorem dX8_layCorner_1 : decode cX8_layCorner 1 = .ok (.istore 5, 2) := by decide +kernel
theorem dX8_layCorner_3 : decode cX8_layCorner 3 = .ok (.iload 5, 2) := by decide +kernel
theorem dX8_layCorner_5 : decode cX8_layCorner 5 = .ok (.bipush 8, 2) := by decide +kernel
theorem dX8_layCorner_7 : decode cX8_layCorner 7 = .ok (.if_icmp .ge 134, 3) := by decide +kernel
theorem dX8_layCorner_10 : decode cX8_layCorner 10 = .ok (.iload 5, 2) := by decide +kernel
theorem dX8_layCorner_12 : decode cX8_layCorner 12 = .ok (.iconst 2, 1) := by decide +kernel
theorem dX8_layCorner_13 : decode cX8_layCorner 13 = .ok (.idiv, 1) := by decide +kernel
theorem dX8_layCorner_14 : decode cX8_layCorner 14 = .ok (.istore 6, 2) := by decide +kernel
theorem dX8_layCorner_16 : decode cX8_layCorner 16 = .ok (.iload 6, 2) := by decide +kernel
theorem dX8_layCorner_18 : decode cX8_layCorner 18 = .ok (.ifCond .eq 9, 3) := by decide +kernel
theorem dX8_layCorner_21 : decode cX8_layCorner 21 = .ok (.iload 6, 2) := by decide +kernel
theorem dX8_layCorner_23 : decode cX8_layCorner 23 = .ok (.iconst 3, 1) := by decide +kernel
theorem dX8_layCorner_24 : decode cX8_layCorner 24 = .ok (.if_icmp .ne 9, 3) := by decide +kernel
theorem dX8_layCorner_27 : decode cX8_layCorner 27 = .ok (.iload_n 3, 1) := by decide +kernel
theorem dX8_layCorner_28 : decode cX8_layCorner 28 = .ok (.iconst 1, 1) := by decide +kernel
theorem dX8_layCorner_29 : decode cX8_layCorner 29 = .ok (.isub, 1) := by decide +kernel
theorem dX8_layCorner_30 : decode cX8_layCorner 30 = .ok (.goto 4, 3) := by decide +kernel
theorem dX8_layCorner_33 : decode cX8_layCorner 33 = .ok (.iload_n 3, 1) := by decide +kernel
theorem dX8_layCorner_34 : decode cX8_layCorner 34 = .ok (.istore 7, 2) := by decide +kernel
theorem dX8_layCorner_36 : decode cX8_layCorner 36 = .ok (.iload 6, 2) := by decide +kernel
theorem dX8_layCorner_38 : decode cX8_layCorner 38 = .ok (.iconst 2, 1) := by decide +kernel
theorem dX8_layCorner_39 : decode cX8_layCorner 39 = .ok (.if_icmp .ge 8, 3) := by decide +kernel
theorem dX8_layCorner_42 : decode cX8_layCorner 42 = .ok (.iload 4, 2) := by decide +kernel
theorem dX8_layCorner_44 : decode cX8_layCorner 44 = .ok (.goto 7, 3) := by decide +kernel
theorem dX8_layCorner_47 : decode cX8_layCorner 47 = .ok (.iload 4, 2) := by decide +kernel
theorem dX8_layCorner_49 : decode cX8_layCorner 49 = .ok (.iconst 1, 1) := by decide +kernel
theorem dX8_layCorner_50 : decode cX8_layCorner 50 = .ok (.isub, 1) := by decide +kernel
theorem dX8_layCorner_51 : decode cX8_layCorner 51 = .ok (.istore 8, 2) := by decide +kernel
theorem dX8_layCorner_53 : decode cX8_layCorner 53 = .ok (.iload 5, 2) := by decide +kernel
theorem dX8_layCorner_55 : decode cX8_layCorner 55 = .ok (.iconst 2, 1) := by decide +kernel
theorem dX8_layCorner_56 : decode cX8_layCorner 56 = .ok (.irem, 1) := by decide +kernel
theorem dX8_layCorner_57 : decode cX8_layCorner 57 = .ok (.ifCond .ne 12, 3) := by decide +kernel
theorem dX8_layCorner_60 : decode cX8_layCorner 60 = .ok (.iload 6, 2) := by decide +kernel
theorem dX8_layCorner_62 : decode cX8_layCorner 62 = .ok (.iconst 3, 1) := by decide +kernel
theorem dX8_layCorner_63 : decode cX8_layCorner 63 = .ok (.iadd, 1) := by decide +kernel
theorem dX8_layCorner_64 : decode cX8_layCorner 64 = .ok (.iconst 4, 1) := by decide +kernel
theorem dX8_layCorner_65 : decode cX8_layCorner 65 = .ok (.irem, 1) := by decide +kernel
theorem dX8_layCorner_66 : decode cX8_layCorner 66 = .ok (.goto 9, 3) := by decide +kernel
theorem dX8_layCorner_69 : decode cX8_layCorner 69 = .ok (.iload 6, 2) := by decide +kernel
theorem dX8_layCorner_71 : decode cX8_layCorner 71 = .ok (.iconst 2, 1) := by decide +kernel
theorem dX8_layCorner_72 : decode cX8_layCorner 72 = .ok (.iadd, 1) := by decide +kernel
theorem dX8_layCorner_73 : decode cX8_layCorner 73 = .ok (.iconst 4, 1) := by decide +kernel
theorem dX8_layCorner_74 : decode cX8_layCorner 74 = .ok (.irem, 1) := by decide +kernel
theorem dX8_layCorner_75 : decode cX8_layCorner 75 = .ok (.istore 9, 2) := by decide +kernel
theorem dX8_layCorner_77 : decode cX8_layCorner 77 = .ok (.aload_n 0, 1) := by decide +kernel
theorem dX8_layCorner_78 : decode cX8_layCorner 78 = .ok (.getfield 23, 3) := by decide +kernel
theorem dX8_layCorner_81 : decode cX8_layCorner 81 = .ok (.iload 5, 2) := by decide +kernel
theorem dX8_layCorner_83 : decode cX8_layCorner 83 = .ok (.iload 7, 2) := by decide +kernel
theorem dX8_layCorner_85 : decode cX8_layCorner 85 = .ok (.i2l, 1) := by decide +kernel
theorem dX8_layCorner_86 : decode cX8_layCorner 86 = .ok (.lconst 0, 1) := by decide +kernel
theorem dX8_layCorner_87 : decode cX8_layCorner 87 = .ok (.ldc2_w 73, 3) := by decide +kernel
theorem dX8_layCorner_90 : decode cX8_layCorner 90 = .ok (.invokestatic 75, 3) := by decide +kernel
theorem dX8_layCorner_93 : decode cX8_layCorner 93 = .ok (.ifCond .eq 40, 3) := by decide +kernel
theorem dX8_layCorner_96 : decode cX8_layCorner 96 = .ok (.iload 8, 2) := by decide +kernel
theorem dX8_layCorner_98 : decode cX8_layCorner 98 = .ok (.i2l, 1) := by decide +kernel
theorem dX8_layCorner_99 : decode cX8_layCorner 99 = .ok (.lconst 0, 1) := by decide +kernel
theorem dX8_layCorner_100 : decode cX8_layCorner 100 = .ok (.ldc2_w 73, 3) := by decide +kernel
theorem dX8_layCorner_103 : decode cX8_layCorner 103 = .ok (.invokestatic 75, 3) := by decide +kernel
theorem dX8_layCorner_106 : decode cX8_layCorner 106 = .ok (.ifCond .eq 27, 3) := by decide +kernel
theorem dX8_layCorner_109 : decode cX8_layCorner 109 = .ok (.lload_n 1, 1) := by decide +kernel
theorem dX8_layCorner_110 : decode cX8_layCorner 110 = .ok (.bipush 16, 2) := by decide +kernel
theorem dX8_layCorner_112 : decode cX8_layCorner 112 = .ok (.iload 7, 2) := by decide +kernel
theorem dX8_layCorner_114 : decode cX8_layCorner 114 = .ok (.imul, 1) := by decide +kernel
theorem dX8_layCorner_115 : decode cX8_layCorner 115 = .ok (.iconst 4, 1) := by decide +kernel
theorem dX8_layCorner_116 : decode cX8_layCorner 116 = .ok (.iload 8, 2) := by decide +kernel
theorem dX8_layCorner_118 : decode cX8_layCorner 118 = .ok (.imul, 1) := by decide +kernel
theorem dX8_layCorner_119 : decode cX8_layCorner 119 = .ok (.iadd, 1) := by decide +kernel
theorem dX8_layCorner_120 : decode cX8_layCorner 120 = .ok (.iload 9, 2) := by decide +kernel
theorem dX8_layCorner_122 : decode cX8_layCorner 122 = .ok (.iadd, 1) := by decide +kernel
theorem dX8_layCorner_123 : decode cX8_layCorner 123 = .ok (.invokestatic 120, 3) := by decide +kernel
theorem dX8_layCorner_126 : decode cX8_layCorner 126 = .ok (.ifCond .eq 7, 3) := by decide +kernel
theorem dX8_layCorner_129 : decode cX8_layCorner 129 = .ok (.iconst 1, 1) := by decide +kernel
theorem dX8_layCorner_130 : decode cX8_layCorner 130 = .ok (.goto 4, 3) := by decide +kernel
theorem dX8_layCorner_133 : decode cX8_layCorner 133 = .ok (.iconst 0, 1) := by decide +kernel
theorem dX8_layCorner_134 : decode cX8_layCorner 134 = .ok (.bastore, 1) := by decide +kernel
theorem dX8_layCorner_135 : decode cX8_layCorner 135 = .ok (.iinc 5 1, 3) := by decide +kernel
theorem dX8_layCorner_138 : decode cX8_layCorner 138 = .ok (.goto (-135), 3) := by decide +kernel
theorem dX8_layCorner_141 : decode cX8_layCorner 141 = .ok (.return_, 1) := by decide +kernel
set_option maxRecDepth 20000 in
theorem ggX8_layMidst_X8_has : GoodIn wsX8_layMidst wsX8_has := goodIn_r _ [5] (by decide +kernel) (by decide +kernel)
set_option maxRecDepth 20000 in
theorem gX8_layMidst_X8_has : GoodIn wsX8_layMidst (va_wsS RX8 120 yX8_has wsX8_has) := goodIn_app (goodIn_of _ (by decide +kernel)) ggX8_layMidst_X8_has
theorem dX8_layMidst_0 : decode cX8_layMidst 0 = .ok (.iconst 0, 1) := by decide +kernel
theorem dX8_layMidst_1 : decode cX8_layMidst 1 = .ok (.istore 4, 2) := by decide +kernel
theorem dX8_layMidst_3 : decode cX8_layMidst 3 = .ok (.iload 4, 2) := by decide +kernel
theorem dX8_layMidst_5 : decode cX8_layMidst 5 = .ok (.bipush 8, 2) := by decide +kernel
theorem dX8_layMidst_7 : decode cX8_layMidst 7 = .ok (.if_icmp .ge 28, 3) := by decide +kernel
theorem dX8_layMidst_10 : decode cX8_layMidst 10 = .ok (.aload_n 0, 1) := by decide +kernel
theorem dX8_layMidst_11 : decode cX8_layMidst 11 = .ok (.getfield 23, 3) := by decide +kernel
theorem dX8_layMidst_14 : decode cX8_layMidst 14 = .ok (.iload 4, 2) := by decide +kernel
theorem dX8_layMidst_16 : decode cX8_layMidst 16 = .ok (.lload_n 1, 1) := by decide +kernel
theorem dX8_layMidst_17 : decode cX8_layMidst 17 = .ok (.iconst 4, 1) := by decide +kernel
theorem dX8_layMidst_18 : decode cX8_layMidst 18 = .ok (.iload_n 3, 1) := by decide +kernel
theorem dX8_layMidst_19 : decode cX8_layMidst 19 = .ok (.imul, 1) := by decide +kernel
theorem dX8_layMidst_20 : decode cX8_layMidst 20 = .ok (.iload 4, 2) := by decide +kernel
theorem dX8_layMidst_22 : decode cX8_layMidst 22 = .ok (.iconst 2, 1) := by decide +kernel
theorem dX8_layMidst_23 : decode cX8_layMidst 23 = .ok (.idiv, 1) := by decide +kernel
theorem dX8_layMidst_24 : decode cX8_layMidst 24 = .ok (.iadd, 1) := by decide +kernel
theorem dX8_layMidst_25 : decode cX8_layMidst 25 = .ok (.invokestatic 120, 3) := by decide +kernel
theorem dX8_layMidst_28 : decode cX8_layMidst 28 = .ok (.bastore, 1) := by decide +kernel
theorem dX8_layMidst_29 : decode cX8_layMidst 29 = .ok (.iinc 4 1, 3) := by decide +kernel
theorem dX8_layMidst_32 : decode cX8_layMidst 32 = .ok (.goto (-29), 3) := by decide +kernel
theorem dX8_layMidst_35 : decode cX8_layMidst 35 = .ok (.return_, 1) := by decide +kernel
theorem dX8_countArcs_0 : decode cX8_countArcs 0 = .ok (.iconst 0, 1) := by decide +kernel
theorem dX8_countArcs_1 : decode cX8_countArcs 1 = .ok (.istore_n 1, 1) := by decide +kernel
theorem dX8_countArcs_2 : decode cX8_countArcs 2 = .ok (.iconst 0, 1) := by decide +kernel
theorem dX8_countArcs_3 : decode cX8_countArcs 3 = .ok (.istore_n 2, 1) := by decide +kernel
theorem dX8_countArcs_4 : decode cX8_countArcs 4 = .ok (.iload_n 2, 1) := by decide +kernel
theorem dX8_countArcs_5 : decode cX8_countArcs 5 = .ok (.bipush 8, 2) := by decide +kernel
theorem dX8_countArcs_7 : decode cX8_countArcs 7 = .ok (.if_icmp .ge 83, 3) := by decide +kernel
theorem dX8_countArcs_10 : decode cX8_countArcs 10 = .ok (.aload_n 0, 1) := by decide +kernel
theorem dX8_countArcs_11 : decode cX8_countArcs 11 = .ok (.getfield 23, 3) := by decide +kernel
theorem dX8_countArcs_14 : decode cX8_countArcs 14 = .ok (.iload_n 2, 1) := by decide +kernel
theorem dX8_countArcs_15 : decode cX8_countArcs 15 = .ok (.baload, 1) := by decide +kernel
theorem dX8_countArcs_16 : decode cX8_countArcs 16 = .ok (.ifCond .eq 68, 3) := by decide +kernel
theorem dX8_countArcs_19 : decode cX8_countArcs 19 = .ok (.aload_n 0, 1) := by decide +kernel
theorem dX8_countArcs_20 : decode cX8_countArcs 20 = .ok (.getfield 23, 3) := by decide +kernel
theorem dX8_countArcs_23 : decode cX8_countArcs 23 = .ok (.iload_n 2, 1) := by decide +kernel
theorem dX8_countArcs_24 : decode cX8_countArcs 24 = .ok (.bipush 7, 2) := by decide +kernel
theorem dX8_countArcs_26 : decode cX8_countArcs 26 = .ok (.iadd, 1) := by decide +kernel
theorem dX8_countArcs_27 : decode cX8_countArcs 27 = .ok (.bipush 8, 2) := by decide +kernel
theorem dX8_countArcs_29 : decode cX8_countArcs 29 = .ok (.irem, 1) := by decide +kernel
theorem dX8_countArcs_30 : decode cX8_countArcs 30 = .ok (.baload, 1) := by decide +kernel
theorem dX8_countArcs_31 : decode cX8_countArcs 31 = .ok (.ifCond .ne 53, 3) := by decide +kernel
theorem dX8_countArcs_34 : decode cX8_countArcs 34 = .ok (.iconst 0, 1) := by decide +kernel
theorem dX8_countArcs_35 : decode cX8_countArcs 35 = .ok (.istore_n 3, 1) := by decide +kernel
theorem dX8_countArcs_36 : decode cX8_countArcs 36 = .ok (.iload_n 3, 1) := by decide +kernel
theorem dX8_countArcs_37 : decode cX8_countArcs 37 = .ok (.bipush 8, 2) := by decide +kernel
theorem dX8_countArcs_39 : decode cX8_countArcs 39 = .ok (.if_icmp .ge 23, 3) := by decide +kernel
theorem dX8_countArcs_42 : decode cX8_countArcs 42 = .ok (.aload_n 0, 1) := by decide +kernel
theorem dX8_countArcs_43 : decode cX8_countArcs 43 = .ok (.getfield 23, 3) := by decide +kernel
theorem dX8_countArcs_46 : decode cX8_countArcs 46 = .ok (.iload_n 2, 1) := by decide +kernel
theorem dX8_countArcs_47 : decode cX8_countArcs 47 = .ok (.iload_n 3, 1) := by decide +kernel
theorem dX8_countArcs_48 : decode cX8_countArcs 48 = .ok (.iadd, 1) := by decide +kernel
theorem dX8_countArcs_49 : decode cX8_countArcs 49 = .ok (.bipush 8, 2) := by decide +kernel
theorem dX8_countArcs_51 : decode cX8_countArcs 51 = .ok (.irem, 1) := by decide +kernel
theorem dX8_countArcs_52 : decode cX8_countArcs 52 = .ok (.baload, 1) := by decide +kernel
theorem dX8_countArcs_53 : decode cX8_countArcs 53 = .ok (.ifCond .eq 9, 3) := by decide +kernel
theorem dX8_countArcs_56 : decode cX8_countArcs 56 = .ok (.iinc 3 1, 3) := by decide +kernel
theorem dX8_countArcs_59 : decode cX8_countArcs 59 = .ok (.goto (-23), 3) := by decide +kernel
theorem dX8_countArcs_62 : decode cX8_countArcs 62 = .ok (.iinc 1 1, 3) := by decide +kernel
theorem dX8_countArcs_65 : decode cX8_countArcs 65 = .ok (.aload_n 0, 1) := by decide +kernel
theorem dX8_countArcs_66 : decode cX8_countArcs 66 = .ok (.getfield 27, 3) := by decide +kernel
theorem dX8_countArcs_69 : decode cX8_countArcs 69 = .ok (.iload_n 3, 1) := by decide +kernel
theorem dX8_countArcs_70 : decode cX8_countArcs 70 = .ok (.iconst 4, 1) := by decide +kernel
theorem dX8_countArcs_71 : decode cX8_countArcs 71 = .ok (.if_icmp .ne 7, 3) := by decide +kernel
theorem dX8_countArcs_74 : decode cX8_countArcs 74 = .ok (.iconst 0, 1) := by decide +kernel
theorem dX8_countArcs_75 : decode cX8_countArcs 75 = .ok (.goto 4, 3) := by decide +kernel
theorem dX8_countArcs_78 : decode cX8_countArcs 78 = .ok (.iload_n 3, 1) := by decide +kernel
theorem dX8_countArcs_79 : decode cX8_countArcs 79 = .ok (.dup2, 1) := by decide +kernel
theorem dX8_countArcs_80 : decode cX8_countArcs 80 = .ok (.iaload, 1) := by decide +kernel
theorem dX8_countArcs_81 : decode cX8_countArcs 81 = .ok (.iconst 1, 1) := by decide +kernel
theorem dX8_countArcs_82 : decode cX8_countArcs 82 = .ok (.iadd, 1) := by decide +kernel
theorem dX8_countArcs_83 : decode cX8_countArcs 83 = .ok (.iastore, 1) := by decide +kernel
theorem dX8_countArcs_84 : decode cX8_countArcs 84 = .ok (.iinc 2 1, 3) := by decide +kernel
theorem dX8_countArcs_87 : decode cX8_countArcs 87 = .ok (.goto (-83), 3) := by decide +kernel
theorem dX8_countArcs_90 : decode cX8_countArcs 90 = .ok (.aload_n 0, 1) := by decide +kernel
theorem dX8_countArcs_91 : decode cX8_countArcs 91 = .ok (.dup, 1) := by decide +kernel
theorem dX8_countArcs_92 : decode cX8_countArcs 92 = .ok (.getfield 137, 3) := by decide +kernel
theorem dX8_countArcs_95 : decode cX8_countArcs 95 = .ok (.iload_n 1, 1) := by decide +kernel
theorem dX8_countArcs_96 : decode cX8_countArcs 96 = .ok (.iconst 1, 1) := by decide +kernel
theorem dX8_countArcs_97 : decode cX8_countArcs 97 = .ok (.if_icmp .le 7, 3) := by decide +kernel
theorem dX8_countArcs_100 : decode cX8_countArcs 100 = .ok (.iconst 1, 1) := by decide +kernel
theorem dX8_countArcs_101 : decode cX8_countArcs 101 = .ok (.goto 4, 3) := by decide +kernel
theorem dX8_countArcs_104 : decode cX8_countArcs 104 = .ok (.iconst 0, 1) := by decide +kernel
theorem dX8_countArcs_105 : decode cX8_countArcs 105 = .ok (.iadd, 1) := by decide +kernel
theorem dX8_countArcs_106 : decode cX8_countArcs 106 = .ok (.putfield 137, 3) := by decide +kernel
theorem dX8_countArcs_109 : decode cX8_countArcs 109 = .ok (.return_, 1) := by decide +kernel
set_option maxRecDepth 20000 in
theorem ggX8_layCorners_X8_layCorner : GoodIn wsX8_layCorners wsX8_layCorner := goodIn_r _ [7, 8, 9, 10, 11, 6, 12, 13, 14, 15, 24, 25, 26, 27, 28, 29, 30, 31, 32, 33, 34, 35, 36, 37, 38, 39, 40, 41, 42, 43, 44, 45, 46] (by decide +kernel) (by decide +kernel)
set_option maxRecDepth 20000 in
theorem gX8_layCorners_X8_layCorner : GoodIn wsX8_layCorners (wsV RX8 140 RX8 yX8_layCorner wsX8_layCorner) := goodIn_app (goodIn_of _ (by decide +kernel)) ggX8_layCorners_X8_layCorner
set_option maxRecDepth 20000 in
theorem ggX8_layCorners_X8_countArcs : GoodIn wsX8_layCorners wsX8_countArcs := goodIn_r _ [19, 8, 1, 2, 24, 25, 26, 27, 28, 29, 30, 31, 32, 33, 34, 35, 36, 37, 38, 39, 40, 41, 42, 43, 44, 45, 46] (by decide +kernel) (by decide +kernel)
set_option maxRecDepth 20000 in
theorem gX8_layCorners_X8_countArcs : GoodIn wsX8_layCorners (wsV RX8 144 RX8 yX8_countArcs wsX8_countArcs) := goodIn_app (goodIn_of _ (by decide +kernel)) ggX8_layCorners_X8_countArcs
set_option maxRecDepth 20000 in
theorem ggX8_layCorners_X8_layMidst : GoodIn wsX8_layCorners wsX8_layMidst := goodIn_r _ [23, 8, 13, 14, 6, 15, 24, 25, 26, 27, 28, 29, 30, 31, 32, 33, 34, 35, 36, 37, 38, 39, 40, 41, 42, 43, 44, 45, 46] (by decide +kernel) (by decide +kernel)
set_option maxRecDepth 20000 in
theorem gX8_layCorners_X8_layMidst : GoodIn wsX8_layCorners (wsV RX8 147 RX8 yX8_layMidst wsX8_layMidst) := goodIn_app (goodIn_of _ (by decide +kernel)) ggX8_layCorners_X8_layMidst
theorem dX8_layCorners_0 : decode cX8_layCorners 0 = .ok (.iconst 0, 1) := by decide +kernel
theorem dX8_layCorners_1 : decode cX8_layCorners 1 = .ok (.istore_n 3, 1) := by decide +kernel
theorem dX8_layCorners_2 : decode cX8_layCorners 2 = .ok (.iload_n 3, 1) := by decide +kernel
theorem dX8_layCorners_3 : decode cX8_layCorners 3 = .ok (.bipush 9, 2) := by decide +kernel
theorem dX8_layCorners_5 : decode cX8_layCorners 5 = .ok (.if_icmp .ge 16, 3) := by decide +kernel
theorem dX8_layCorners_8 : decode cX8_layCorners 8 = .ok (.aload_n 0, 1) := by decide +kernel
theorem dX8_layCorners_9 : decode cX8_layCorners 9 = .ok (.getfield 27, 3) := by decide +kernel
theorem dX8_layCorners_12 : decode cX8_layCorners 12 = .ok (.iload_n 3, 1) := by decide +kernel
theorem dX8_layCorners_13 : decode cX8_layCorners 13 = .ok (.iconst 0, 1) := by decide +kernel
theorem dX8_layCorners_14 : decode cX8_layCorners 14 = .ok (.iastore, 1) := by decide +kernel
theorem dX8_layCorners_15 : decode cX8_layCorners 15 = .ok (.iinc 3 1, 3) := by decide +kernel
theorem dX8_layCorners_18 : decode cX8_layCorners 18 = .ok (.goto (-16), 3) := by decide +kernel
theorem dX8_layCorners_21 : decode cX8_layCorners 21 = .ok (.aload_n 0, 1) := by decide +kernel
theorem dX8_layCorners_22 : decode cX8_layCorners 22 = .ok (.iconst 0, 1) := by decide +kernel
theorem dX8_layCorners_23 : decode cX8_layCorners 23 = .ok (.putfield 137, 3) := by decide +kernel
theorem dX8_layCorners_26 : decode cX8_layCorners 26 = .ok (.iconst 0, 1) := by decide +kernel
theorem dX8_layCorners_27 : decode cX8_layCorners 27 = .ok (.istore_n 3, 1) := by decide +kernel
theorem dX8_layCorners_28 : decode cX8_layCorners 28 = .ok (.iload_n 3, 1) := by decide +kernel
theorem dX8_layCorners_29 : decode cX8_layCorners 29 = .ok (.bipush 25, 2) := by decide +kernel
theorem dX8_layCorners_31 : decode cX8_layCorners 31 = .ok (.if_icmp .ge 24, 3) := by decide +kernel
theorem dX8_layCorners_34 : decode cX8_layCorners 34 = .ok (.aload_n 0, 1) := by decide +kernel
theorem dX8_layCorners_35 : decode cX8_layCorners 35 = .ok (.lload_n 1, 1) := by decide +kernel
theorem dX8_layCorners_36 : decode cX8_layCorners 36 = .ok (.iload_n 3, 1) := by decide +kernel
theorem dX8_layCorners_37 : decode cX8_layCorners 37 = .ok (.iconst 5, 1) := by decide +kernel
theorem dX8_layCorners_38 : decode cX8_layCorners 38 = .ok (.idiv, 1) := by decide +kernel
theorem dX8_layCorners_39 : decode cX8_layCorners 39 = .ok (.iload_n 3, 1) := by decide +kernel
theorem dX8_layCorners_40 : decode cX8_layCorners 40 = .ok (.iconst 5, 1) := by decide +kernel
theorem dX8_layCorners_41 : decode cX8_layCorners 41 = .ok (.irem, 1) := by decide +kernel
theorem dX8_layCorners_42 : decode cX8_layCorners 42 = .ok (.invokevirtual 140, 3) := by decide +kernel
theorem dX8_layCorners_45 : decode cX8_layCorners 45 = .ok (.aload_n 0, 1) := by decide +kernel
theorem dX8_layCorners_46 : decode cX8_layCorners 46 = .ok (.invokevirtual 144, 3) := by decide +kernel
theorem dX8_layCorners_49 : decode cX8_layCorners 49 = .ok (.iinc 3 1, 3) := by decide +kernel
theorem dX8_layCorners_52 : decode cX8_layCorners 52 = .ok (.goto (-24), 3) := by decide +kernel
theorem dX8_layCorners_55 : decode cX8_layCorners 55 = .ok (.iconst 0, 1) := by decide +kernel
theorem dX8_layCorners_56 : decode cX8_layCorners 56 = .ok (.istore_n 3, 1) := by decide +kernel
theorem dX8_layCorners_57 : decode cX8_layCorners 57 = .ok (.iload_n 3, 1) := by decide +kernel
theorem dX8_layCorners_58 : decode cX8_layCorners 58 = .ok (.bipush 16, 2) := by decide +kernel
theorem dX8_layCorners_60 : decode cX8_layCorners 60 = .ok (.if_icmp .ge 19, 3) := by decide +kernel
theorem dX8_layCorners_63 : decode cX8_layCorners 63 = .ok (.aload_n 0, 1) := by decide +kernel
theorem dX8_layCorners_64 : decode cX8_layCorners 64 = .ok (.lload_n 1, 1) := by decide +kernel
theorem dX8_layCorners_65 : decode cX8_layCorners 65 = .ok (.iload_n 3, 1) := by decide +kernel
theorem dX8_layCorners_66 : decode cX8_layCorners 66 = .ok (.invokevirtual 147, 3) := by decide +kernel
theorem dX8_layCorners_69 : decode cX8_layCorners 69 = .ok (.aload_n 0, 1) := by decide +kernel
theorem dX8_layCorners_70 : decode cX8_layCorners 70 = .ok (.invokevirtual 144, 3) := by decide +kernel
theorem dX8_layCorners_73 : decode cX8_layCorners 73 = .ok (.iinc 3 1, 3) := by decide +kernel
theorem dX8_layCorners_76 : decode cX8_layCorners 76 = .ok (.goto (-19), 3) := by decide +kernel
theorem dX8_layCorners_79 : decode cX8_layCorners 79 = .ok (.return_, 1) := by decide +kernel
set_option maxRecDepth 20000 in
theorem ggX8_corners_X8_isFigure : GoodIn wsX8_corners wsX8_isFigure := goodIn_r _ [7, 1, 8, 9, 6, 10] (by decide +kernel) (by decide +kernel)
set_option maxRecDepth 20000 in
theorem gX8_corners_X8_isFigure : GoodIn wsX8_corners (va_wsS RX8 106 yX8_isFigure wsX8_isFigure) := goodIn_app (goodIn_of _ (by decide +kernel)) ggX8_corners_X8_isFigure
set_option maxRecDepth 20000 in
theorem ggX8_corners_X8_in : GoodIn wsX8_corners wsX8_in := goodIn_r _ [10] (by decide +kernel) (by decide +kernel)
set_option maxRecDepth 20000 in
theorem gX8_corners_X8_in : GoodIn wsX8_corners (va_wsS RX8 75 yX8_in wsX8_in) := goodIn_app (goodIn_of _ (by decide +kernel)) ggX8_corners_X8_in
set_option maxRecDepth 20000 in
theorem ggX8_corners_X8_layCorners : GoodIn wsX8_corners wsX8_layCorners := goodIn_r _ [14, 3, 15, 16, 17, 18, 6, 19, 20, 21, 8, 9, 10, 22, 23, 24, 25, 26, 27, 28, 29, 30, 31, 32, 33, 34, 35, 36, 37, 38, 39, 40, 41, 42, 43, 44, 45, 46, 47, 48, 49, 50, 51, 52, 53, 54, 55] (by decide +kernel) (by decide +kernel)
set_option maxRecDepth 20000 in
theorem gX8_corners_X8_layCorners : GoodIn wsX8_corners (wsV RX8 151 RX8 yX8_layCorners wsX8_layCorners) := goodIn_app (goodIn_of _ (by decide +kernel)) ggX8_corners_X8_layCorners
theorem dX8_corners_0 : decode cX8_corners 0 = .ok (.iload_n 1, 1) := by decide +kernel
theorem dX8_corners_1 : decode cX8_corners 1 = .ok (.invokestatic 106, 3) := by decide +kernel
theorem dX8_corners_4 : decode cX8_corners 4 = .ok (.ifCond .ne 5, 3) := by decide +kernel
theorem dX8_corners_7 : decode cX8_corners 7 = .ok (.iconst (-1), 1) := by decide +kernel
theorem dX8_corners_8 : decode cX8_corners 8 = .ok (.ireturn, 1) := by decide +kernel
theorem dX8_corners_9 : decode cX8_corners 9 = .ok (.iload_n 2, 1) := by decide +kernel
theorem dX8_corners_10 : decode cX8_corners 10 = .ok (.i2l, 1) := by decide +kernel
theorem dX8_corners_11 : decode cX8_corners 11 = .ok (.lconst 0, 1) := by decide +kernel
theorem dX8_corners_12 : decode cX8_corners 12 = .ok (.ldc2_w 81, 3) := by decide +kernel
theorem dX8_corners_15 : decode cX8_corners 15 = .ok (.invokestatic 75, 3) := by decide +kernel
theorem dX8_corners_18 : decode cX8_corners 18 = .ok (.ifCond .ne 6, 3) := by decide +kernel
theorem dX8_corners_21 : decode cX8_corners 21 = .ok (.bipush (-2), 2) := by decide +kernel
theorem dX8_corners_23 : decode cX8_corners 23 = .ok (.ireturn, 1) := by decide +kernel
theorem dX8_corners_24 : decode cX8_corners 24 = .ok (.aload_n 0, 1) := by decide +kernel
theorem dX8_corners_25 : decode cX8_corners 25 = .ok (.aload_n 0, 1) := by decide +kernel
theorem dX8_corners_26 : decode cX8_corners 26 = .ok (.getfield 17, 3) := by decide +kernel
theorem dX8_corners_29 : decode cX8_corners 29 = .ok (.iload_n 1, 1) := by decide +kernel
theorem dX8_corners_30 : decode cX8_corners 30 = .ok (.laload, 1) := by decide +kernel
theorem dX8_corners_31 : decode cX8_corners 31 = .ok (.invokevirtual 151, 3) := by decide +kernel
theorem dX8_corners_34 : decode cX8_corners 34 = .ok (.iconst 0, 1) := by decide +kernel
theorem dX8_corners_35 : decode cX8_corners 35 = .ok (.istore_n 3, 1) := by decide +kernel
theorem dX8_corners_36 : decode cX8_corners 36 = .ok (.iconst 1, 1) := by decide +kernel
theorem dX8_corners_37 : decode cX8_corners 37 = .ok (.istore 4, 2) := by decide +kernel
theorem dX8_corners_39 : decode cX8_corners 39 = .ok (.iload 4, 2) := by decide +kernel
theorem dX8_corners_41 : decode cX8_corners 41 = .ok (.bipush 8, 2) := by decide +kernel
theorem dX8_corners_43 : decode cX8_corners 43 = .ok (.if_icmp .ge 19, 3) := by decide +kernel
theorem dX8_corners_46 : decode cX8_corners 46 = .ok (.iload_n 3, 1) := by decide +kernel
theorem dX8_corners_47 : decode cX8_corners 47 = .ok (.aload_n 0, 1) := by decide +kernel
theorem dX8_corners_48 : decode cX8_corners 48 = .ok (.getfield 27, 3) := by decide +kernel
theorem dX8_corners_51 : decode cX8_corners 51 = .ok (.iload 4, 2) := by decide +kernel
theorem dX8_corners_53 : decode cX8_corners 53 = .ok (.iaload, 1) := by decide +kernel
theorem dX8_corners_54 : decode cX8_corners 54 = .ok (.iadd, 1) := by decide +kernel
theorem dX8_corners_55 : decode cX8_corners 55 = .ok (.istore_n 3, 1) := by decide +kernel
theorem dX8_corners_56 : decode cX8_corners 56 = .ok (.iinc 4 1, 3) := by decide +kernel
theorem dX8_corners_59 : decode cX8_corners 59 = .ok (.goto (-20), 3) := by decide +kernel
theorem dX8_corners_62 : decode cX8_corners 62 = .ok (.iload_n 2, 1) := by decide +kernel
theorem dX8_corners_63 : decode cX8_corners 63 = .ok (.ifCond .ne 7, 3) := by decide +kernel
theorem dX8_corners_66 : decode cX8_corners 66 = .ok (.iload_n 3, 1) := by decide +kernel
theorem dX8_corners_67 : decode cX8_corners 67 = .ok (.goto 9, 3) := by decide +kernel
theorem dX8_corners_70 : decode cX8_corners 70 = .ok (.aload_n 0, 1) := by decide +kernel
theorem dX8_corners_71 : decode cX8_corners 71 = .ok (.getfield 27, 3) := by decide +kernel
theorem dX8_corners_74 : decode cX8_corners 74 = .ok (.iload_n 2, 1) := by decide +kernel
theorem dX8_corners_75 : decode cX8_corners 75 = .ok (.iaload, 1) := by decide +kernel
theorem dX8_corners_76 : decode cX8_corners 76 = .ok (.ireturn, 1) := by decide +kernel
set_option maxRecDepth 20000 in
theorem ggX8_convex_X8_isFigure : GoodIn wsX8_convex wsX8_isFigure := goodIn_r _ [7, 8, 9, 10, 6, 11] (by decide +kernel) (by decide +kernel)
set_option maxRecDepth 20000 in
theorem gX8_convex_X8_isFigure : GoodIn wsX8_convex (va_wsS RX8 106 yX8_isFigure wsX8_isFigure) := goodIn_app (goodIn_of _ (by decide +kernel)) ggX8_convex_X8_isFigure
set_option maxRecDepth 20000 in
theorem ggX8_convex_X8_layCorners : GoodIn wsX8_convex wsX8_layCorners := goodIn_r _ [15, 3, 2, 16, 17, 18, 6, 19, 20, 21, 9, 10, 11, 22, 23, 24, 25, 26, 27, 28, 29, 30, 31, 32, 54, 55, 56, 57, 58, 59, 60, 61, 62, 63, 64, 65, 66, 67, 68, 69, 70, 71, 72, 73, 74, 75, 76] (by decide +kernel) (by decide +kernel)
set_option maxRecDepth 20000 in
theorem gX8_convex_X8_layCorners : GoodIn wsX8_convex (wsV RX8 151 RX8 yX8_layCorners wsX8_layCorners) := goodIn_app (goodIn_of _ (by decide +kernel)) ggX8_convex_X8_layCorners
set_option maxRecDepth 20000 in
theorem ggX8_convex_X8_partsOf : GoodIn wsX8_convex wsX8_partsOf := goodIn_r _ [36, 37, 38, 39, 6, 40, 41, 22, 23, 24, 42, 43, 44, 45, 46, 54, 55, 56, 57, 58, 59, 60, 61, 62, 63, 64, 65, 66, 67, 68, 69, 70, 71, 72, 73, 74, 75, 76] (by decide +kernel) (by decide +kernel)
set_option maxRecDepth 20000 in
theorem gX8_convex_X8_partsOf : GoodIn wsX8_convex (wsV RX8 131 RX8 yX8_partsOf wsX8_partsOf) := goodIn_app (goodIn_of _ (by decide +kernel)) ggX8_convex_X8_partsOf
set_option maxRecDepth 20000 in
theorem ggX8_convex_X8_holesOf : GoodIn wsX8_convex wsX8_holesOf := goodIn_r _ [50, 41, 37, 38, 39, 6, 40, 22, 23, 24, 42, 43, 44, 45, 46, 51, 52, 53, 21, 9, 10, 11, 54, 55, 56, 57, 58, 59, 60, 61, 62, 63, 64, 65, 66, 67, 68, 69, 70, 71, 72, 73, 74, 75, 76] (by decide +kernel) (by decide +kernel)
set_option maxRecDepth 20000 in
theorem gX8_convex_X8_holesOf : GoodIn wsX8_convex (wsV RX8 134 RX8 yX8_holesOf wsX8_holesOf) := goodIn_app (goodIn_of _ (by decide +kernel)) ggX8_convex_X8_holesOf
theorem dX8_convex_0 : decode cX8_convex 0 = .ok (.iload_n 1, 1) := by decide +kernel
theorem dX8_convex_1 : decode cX8_convex 1 = .ok (.invokestatic 106, 3) := by decide +kernel
theorem dX8_convex_4 : decode cX8_convex 4 = .ok (.ifCond .ne 5, 3) := by decide +kernel
theorem dX8_convex_7 : decode cX8_convex 7 = .ok (.iconst (-1), 1) := by decide +kernel
theorem dX8_convex_8 : decode cX8_convex 8 = .ok (.ireturn, 1) := by decide +kernel
theorem dX8_convex_9 : decode cX8_convex 9 = .ok (.aload_n 0, 1) := by decide +kernel
theorem dX8_convex_10 : decode cX8_convex 10 = .ok (.aload_n 0, 1) := by decide +kernel
theorem dX8_convex_11 : decode cX8_convex 11 = .ok (.getfield 17, 3) := by decide +kernel
theorem dX8_convex_14 : decode cX8_convex 14 = .ok (.iload_n 1, 1) := by decide +kernel
theorem dX8_convex_15 : decode cX8_convex 15 = .ok (.laload, 1) := by decide +kernel
theorem dX8_convex_16 : decode cX8_convex 16 = .ok (.invokevirtual 151, 3) := by decide +kernel
theorem dX8_convex_19 : decode cX8_convex 19 = .ok (.aload_n 0, 1) := by decide +kernel
theorem dX8_convex_20 : decode cX8_convex 20 = .ok (.getfield 17, 3) := by decide +kernel
theorem dX8_convex_23 : decode cX8_convex 23 = .ok (.iload_n 1, 1) := by decide +kernel
theorem dX8_convex_24 : decode cX8_convex 24 = .ok (.laload, 1) := by decide +kernel
theorem dX8_convex_25 : decode cX8_convex 25 = .ok (.lconst 0, 1) := by decide +kernel
theorem dX8_convex_26 : decode cX8_convex 26 = .ok (.lcmp, 1) := by decide +kernel
theorem dX8_convex_27 : decode cX8_convex 27 = .ok (.ifCond .eq 66, 3) := by decide +kernel
theorem dX8_convex_30 : decode cX8_convex 30 = .ok (.aload_n 0, 1) := by decide +kernel
theorem dX8_convex_31 : decode cX8_convex 31 = .ok (.aload_n 0, 1) := by decide +kernel
theorem dX8_convex_32 : decode cX8_convex 32 = .ok (.getfield 17, 3) := by decide +kernel
theorem dX8_convex_35 : decode cX8_convex 35 = .ok (.iload_n 1, 1) := by decide +kernel
theorem dX8_convex_36 : decode cX8_convex 36 = .ok (.laload, 1) := by decide +kernel
theorem dX8_convex_37 : decode cX8_convex 37 = .ok (.invokevirtual 131, 3) := by decide +kernel
theorem dX8_convex_40 : decode cX8_convex 40 = .ok (.iconst 1, 1) := by decide +kernel
theorem dX8_convex_41 : decode cX8_convex 41 = .ok (.if_icmp .ne 52, 3) := by decide +kernel
theorem dX8_convex_44 : decode cX8_convex 44 = .ok (.aload_n 0, 1) := by decide +kernel
theorem dX8_convex_45 : decode cX8_convex 45 = .ok (.aload_n 0, 1) := by decide +kernel
theorem dX8_convex_46 : decode cX8_convex 46 = .ok (.getfield 17, 3) := by decide +kernel
theorem dX8_convex_49 : decode cX8_convex 49 = .ok (.iload_n 1, 1) := by decide +kernel
theorem dX8_convex_50 : decode cX8_convex 50 = .ok (.laload, 1) := by decide +kernel
theorem dX8_convex_51 : decode cX8_convex 51 = .ok (.invokevirtual 134, 3) := by decide +kernel
theorem dX8_convex_54 : decode cX8_convex 54 = .ok (.ifCond .ne 39, 3) := by decide +kernel
theorem dX8_convex_57 : decode cX8_convex 57 = .ok (.aload_n 0, 1) := by decide +kernel
theorem dX8_convex_58 : decode cX8_convex 58 = .ok (.getfield 137, 3) := by decide +kernel
theorem dX8_convex_61 : decode cX8_convex 61 = .ok (.ifCond .ne 32, 3) := by decide +kernel
theorem dX8_convex_64 : decode cX8_convex 64 = .ok (.aload_n 0, 1) := by decide +kernel
theorem dX8_convex_65 : decode cX8_convex 65 = .ok (.getfield 27, 3) := by decide +kernel
theorem dX8_convex_68 : decode cX8_convex 68 = .ok (.iconst 5, 1) := by decide +kernel
theorem dX8_convex_69 : decode cX8_convex 69 = .ok (.iaload, 1) := by decide +kernel
theorem dX8_convex_70 : decode cX8_convex 70 = .ok (.aload_n 0, 1) := by decide +kernel
theorem dX8_convex_71 : decode cX8_convex 71 = .ok (.getfield 27, 3) := by decide +kernel
theorem dX8_convex_74 : decode cX8_convex 74 = .ok (.bipush 6, 2) := by decide +kernel
theorem dX8_convex_76 : decode cX8_convex 76 = .ok (.iaload, 1) := by decide +kernel
theorem dX8_convex_77 : decode cX8_convex 77 = .ok (.iadd, 1) := by decide +kernel
theorem dX8_convex_78 : decode cX8_convex 78 = .ok (.aload_n 0, 1) := by decide +kernel
theorem dX8_convex_79 : decode cX8_convex 79 = .ok (.getfield 27, 3) := by decide +kernel
theorem dX8_convex_82 : decode cX8_convex 82 = .ok (.bipush 7, 2) := by decide +kernel
theorem dX8_convex_84 : decode cX8_convex 84 = .ok (.iaload, 1) := by decide +kernel
theorem dX8_convex_85 : decode cX8_convex 85 = .ok (.iadd, 1) := by decide +kernel
theorem dX8_convex_86 : decode cX8_convex 86 = .ok (.ifCond .ne 7, 3) := by decide +kernel
theorem dX8_convex_89 : decode cX8_convex 89 = .ok (.iconst 1, 1) := by decide +kernel
theorem dX8_convex_90 : decode cX8_convex 90 = .ok (.goto 4, 3) := by decide +kernel
theorem dX8_convex_93 : decode cX8_convex 93 = .ok (.iconst 0, 1) := by decide +kernel
theorem dX8_convex_94 : decode cX8_convex 94 = .ok (.istore_n 2, 1) := by decide +kernel
theorem dX8_convex_95 : decode cX8_convex 95 = .ok (.iload_n 2, 1) := by decide +kernel
theorem dX8_convex_96 : decode cX8_convex 96 = .ok (.ifCond .eq 7, 3) := by decide +kernel
theorem dX8_convex_99 : decode cX8_convex 99 = .ok (.iconst 1, 1) := by decide +kernel
theorem dX8_convex_100 : decode cX8_convex 100 = .ok (.goto 4, 3) := by decide +kernel
theorem dX8_convex_103 : decode cX8_convex 103 = .ok (.iconst 0, 1) := by decide +kernel
theorem dX8_convex_104 : decode cX8_convex 104 = .ok (.ireturn, 1) := by decide +kernel
set_option maxRecDepth 20000 in
theorem ggX8_turnedBy_X8_has : GoodIn wsX8_turnedBy wsX8_has := goodIn_r _ [5] (by decide +kernel) (by decide +kernel)
set_option maxRecDepth 20000 in
theorem gX8_turnedBy_X8_has : GoodIn wsX8_turnedBy (va_wsS RX8 120 yX8_has wsX8_has) := goodIn_app (goodIn_of _ (by decide +kernel)) ggX8_turnedBy_X8_has
theorem dX8_turnedBy_0 : decode cX8_turnedBy 0 = .ok (.lconst 0, 1) := by decide +kernel
theorem dX8_turnedBy_1 : decode cX8_turnedBy 1 = .ok (.lstore 4, 2) := by decide +kernel
theorem dX8_turnedBy_3 : decode cX8_turnedBy 3 = .ok (.iconst 0, 1) := by decide +kernel
theorem dX8_turnedBy_4 : decode cX8_turnedBy 4 = .ok (.istore 6, 2) := by decide +kernel
theorem dX8_turnedBy_6 : decode cX8_turnedBy 6 = .ok (.iload 6, 2) := by decide +kernel
theorem dX8_turnedBy_8 : decode cX8_turnedBy 8 = .ok (.bipush 64, 2) := by decide +kernel
theorem dX8_turnedBy_10 : decode cX8_turnedBy 10 = .ok (.if_icmp .ge 41, 3) := by decide +kernel
theorem dX8_turnedBy_13 : decode cX8_turnedBy 13 = .ok (.lload 4, 2) := by decide +kernel
theorem dX8_turnedBy_15 : decode cX8_turnedBy 15 = .ok (.lload_n 1, 1) := by decide +kernel
theorem dX8_turnedBy_16 : decode cX8_turnedBy 16 = .ok (.iload 6, 2) := by decide +kernel
theorem dX8_turnedBy_18 : decode cX8_turnedBy 18 = .ok (.invokestatic 120, 3) := by decide +kernel
theorem dX8_turnedBy_21 : decode cX8_turnedBy 21 = .ok (.ifCond .eq 20, 3) := by decide +kernel
theorem dX8_turnedBy_24 : decode cX8_turnedBy 24 = .ok (.lconst 1, 1) := by decide +kernel
theorem dX8_turnedBy_25 : decode cX8_turnedBy 25 = .ok (.aload_n 0, 1) := by decide +kernel
theorem dX8_turnedBy_26 : decode cX8_turnedBy 26 = .ok (.getfield 13, 3) := by decide +kernel
theorem dX8_turnedBy_29 : decode cX8_turnedBy 29 = .ok (.bipush 64, 2) := by decide +kernel
theorem dX8_turnedBy_31 : decode cX8_turnedBy 31 = .ok (.iload_n 3, 1) := by decide +kernel
theorem dX8_turnedBy_32 : decode cX8_turnedBy 32 = .ok (.imul, 1) := by decide +kernel
theorem dX8_turnedBy_33 : decode cX8_turnedBy 33 = .ok (.iload 6, 2) := by decide +kernel
theorem dX8_turnedBy_35 : decode cX8_turnedBy 35 = .ok (.iadd, 1) := by decide +kernel
theorem dX8_turnedBy_36 : decode cX8_turnedBy 36 = .ok (.iaload, 1) := by decide +kernel
theorem dX8_turnedBy_37 : decode cX8_turnedBy 37 = .ok (.lshl, 1) := by decide +kernel
theorem dX8_turnedBy_38 : decode cX8_turnedBy 38 = .ok (.goto 4, 3) := by decide +kernel
theorem dX8_turnedBy_41 : decode cX8_turnedBy 41 = .ok (.lconst 0, 1) := by decide +kernel
theorem dX8_turnedBy_42 : decode cX8_turnedBy 42 = .ok (.lor, 1) := by decide +kernel
theorem dX8_turnedBy_43 : decode cX8_turnedBy 43 = .ok (.lstore 4, 2) := by decide +kernel
theorem dX8_turnedBy_45 : decode cX8_turnedBy 45 = .ok (.iinc 6 1, 3) := by decide +kernel
theorem dX8_turnedBy_48 : decode cX8_turnedBy 48 = .ok (.goto (-42), 3) := by decide +kernel
theorem dX8_turnedBy_51 : decode cX8_turnedBy 51 = .ok (.lload 4, 2) := by decide +kernel
theorem dX8_turnedBy_53 : decode cX8_turnedBy 53 = .ok (.lreturn, 1) := by decide +kernel
set_option maxRecDepth 20000 in
theorem ggX8_stays_X8_has : GoodIn wsX8_stays wsX8_has := goodIn_r _ [5] (by decide +kernel) (by decide +kernel)
set_option maxRecDepth 20000 in
theorem gX8_stays_X8_has : GoodIn wsX8_stays (va_wsS RX8 120 yX8_has wsX8_has) := goodIn_app (goodIn_of _ (by decide +kernel)) ggX8_stays_X8_has
set_option maxRecDepth 20000 in
theorem ggX8_stays_X8_in : GoodIn wsX8_stays wsX8_in := goodIn_r _ [8] (by decide +kernel) (by decide +kernel)
set_option maxRecDepth 20000 in
theorem gX8_stays_X8_in : GoodIn wsX8_stays (va_wsS RX8 75 yX8_in wsX8_in) := goodIn_app (goodIn_of _ (by decide +kernel)) ggX8_stays_X8_in
theorem dX8_stays_0 : decode cX8_stays 0 = .ok (.iconst 1, 1) := by decide +kernel
theorem dX8_stays_1 : decode cX8_stays 1 = .ok (.istore 5, 2) := by decide +kernel
theorem dX8_stays_3 : decode cX8_stays 3 = .ok (.iconst 0, 1) := by decide +kernel
theorem dX8_stays_4 : decode cX8_stays 4 = .ok (.istore 6, 2) := by decide +kernel
theorem dX8_stays_6 : decode cX8_stays 6 = .ok (.iload 6, 2) := by decide +kernel
theorem dX8_stays_8 : decode cX8_stays 8 = .ok (.bipush 64, 2) := by decide +kernel
theorem dX8_stays_10 : decode cX8_stays 10 = .ok (.if_icmp .ge 68, 3) := by decide +kernel
theorem dX8_stays_13 : decode cX8_stays 13 = .ok (.iload 5, 2) := by decide +kernel
theorem dX8_stays_15 : decode cX8_stays 15 = .ok (.ifCond .eq 54, 3) := by decide +kernel
theorem dX8_stays_18 : decode cX8_stays 18 = .ok (.lload_n 1, 1) := by decide +kernel
theorem dX8_stays_19 : decode cX8_stays 19 = .ok (.iload 6, 2) := by decide +kernel
theorem dX8_stays_21 : decode cX8_stays 21 = .ok (.invokestatic 120, 3) := by decide +kernel
theorem dX8_stays_24 : decode cX8_stays 24 = .ok (.ifCond .eq 41, 3) := by decide +kernel
theorem dX8_stays_27 : decode cX8_stays 27 = .ok (.iload 6, 2) := by decide +kernel
theorem dX8_stays_29 : decode cX8_stays 29 = .ok (.bipush 16, 2) := by decide +kernel
theorem dX8_stays_31 : decode cX8_stays 31 = .ok (.idiv, 1) := by decide +kernel
theorem dX8_stays_32 : decode cX8_stays 32 = .ok (.iload 4, 2) := by decide +kernel
theorem dX8_stays_34 : decode cX8_stays 34 = .ok (.iadd, 1) := by decide +kernel
theorem dX8_stays_35 : decode cX8_stays 35 = .ok (.i2l, 1) := by decide +kernel
theorem dX8_stays_36 : decode cX8_stays 36 = .ok (.lconst 0, 1) := by decide +kernel
theorem dX8_stays_37 : decode cX8_stays 37 = .ok (.ldc2_w 73, 3) := by decide +kernel
theorem dX8_stays_40 : decode cX8_stays 40 = .ok (.invokestatic 75, 3) := by decide +kernel
theorem dX8_stays_43 : decode cX8_stays 43 = .ok (.ifCond .eq 26, 3) := by decide +kernel
theorem dX8_stays_46 : decode cX8_stays 46 = .ok (.iload 6, 2) := by decide +kernel
theorem dX8_stays_48 : decode cX8_stays 48 = .ok (.iconst 4, 1) := by decide +kernel
theorem dX8_stays_49 : decode cX8_stays 49 = .ok (.idiv, 1) := by decide +kernel
theorem dX8_stays_50 : decode cX8_stays 50 = .ok (.iconst 4, 1) := by decide +kernel
theorem dX8_stays_51 : decode cX8_stays 51 = .ok (.irem, 1) := by decide +kernel
theorem dX8_stays_52 : decode cX8_stays 52 = .ok (.iload_n 3, 1) := by decide +kernel
theorem dX8_stays_53 : decode cX8_stays 53 = .ok (.iadd, 1) := by decide +kernel
theorem dX8_stays_54 : decode cX8_stays 54 = .ok (.i2l, 1) := by decide +kernel
theorem dX8_stays_55 : decode cX8_stays 55 = .ok (.lconst 0, 1) := by decide +kernel
theorem dX8_stays_56 : decode cX8_stays 56 = .ok (.ldc2_w 73, 3) := by decide +kernel
theorem dX8_stays_59 : decode cX8_stays 59 = .ok (.invokestatic 75, 3) := by decide +kernel
theorem dX8_stays_62 : decode cX8_stays 62 = .ok (.ifCond .eq 7, 3) := by decide +kernel
theorem dX8_stays_65 : decode cX8_stays 65 = .ok (.iconst 1, 1) := by decide +kernel
theorem dX8_stays_66 : decode cX8_stays 66 = .ok (.goto 4, 3) := by decide +kernel
theorem dX8_stays_69 : decode cX8_stays 69 = .ok (.iconst 0, 1) := by decide +kernel
theorem dX8_stays_70 : decode cX8_stays 70 = .ok (.istore 5, 2) := by decide +kernel
theorem dX8_stays_72 : decode cX8_stays 72 = .ok (.iinc 6 1, 3) := by decide +kernel
theorem dX8_stays_75 : decode cX8_stays 75 = .ok (.goto (-69), 3) := by decide +kernel
theorem dX8_stays_78 : decode cX8_stays 78 = .ok (.iload 5, 2) := by decide +kernel
theorem dX8_stays_80 : decode cX8_stays 80 = .ok (.ireturn, 1) := by decide +kernel
set_option maxRecDepth 20000 in
theorem ggX8_shifted_X8_has : GoodIn wsX8_shifted wsX8_has := goodIn_r _ [4] (by decide +kernel) (by decide +kernel)
set_option maxRecDepth 20000 in
theorem gX8_shifted_X8_has : GoodIn wsX8_shifted (va_wsS RX8 120 yX8_has wsX8_has) := goodIn_app (goodIn_of _ (by decide +kernel)) ggX8_shifted_X8_has
theorem dX8_shifted_0 : decode cX8_shifted 0 = .ok (.bipush 16, 2) := by decide +kernel
theorem dX8_shifted_2 : decode cX8_shifted 2 = .ok (.iload_n 3, 1) := by decide +kernel
theorem dX8_shifted_3 : decode cX8_shifted 3 = .ok (.imul, 1) := by decide +kernel
theorem dX8_shifted_4 : decode cX8_shifted 4 = .ok (.iconst 4, 1) := by decide +kernel
theorem dX8_shifted_5 : decode cX8_shifted 5 = .ok (.iload_n 2, 1) := by decide +kernel
theorem dX8_shifted_6 : decode cX8_shifted 6 = .ok (.imul, 1) := by decide +kernel
theorem dX8_shifted_7 : decode cX8_shifted 7 = .ok (.iadd, 1) := by decide +kernel
theorem dX8_shifted_8 : decode cX8_shifted 8 = .ok (.istore 4, 2) := by decide +kernel
theorem dX8_shifted_10 : decode cX8_shifted 10 = .ok (.lconst 0, 1) := by decide +kernel
theorem dX8_shifted_11 : decode cX8_shifted 11 = .ok (.lstore 5, 2) := by decide +kernel
theorem dX8_shifted_13 : decode cX8_shifted 13 = .ok (.iconst 0, 1) := by decide +kernel
theorem dX8_shifted_14 : decode cX8_shifted 14 = .ok (.istore 7, 2) := by decide +kernel
theorem dX8_shifted_16 : decode cX8_shifted 16 = .ok (.iload 7, 2) := by decide +kernel
theorem dX8_shifted_18 : decode cX8_shifted 18 = .ok (.bipush 64, 2) := by decide +kernel
theorem dX8_shifted_20 : decode cX8_shifted 20 = .ok (.if_icmp .ge 34, 3) := by decide +kernel
theorem dX8_shifted_23 : decode cX8_shifted 23 = .ok (.lload 5, 2) := by decide +kernel
theorem dX8_shifted_25 : decode cX8_shifted 25 = .ok (.lload_n 0, 1) := by decide +kernel
theorem dX8_shifted_26 : decode cX8_shifted 26 = .ok (.iload 7, 2) := by decide +kernel
theorem dX8_shifted_28 : decode cX8_shifted 28 = .ok (.invokestatic 120, 3) := by decide +kernel
theorem dX8_shifted_31 : decode cX8_shifted 31 = .ok (.ifCond .eq 13, 3) := by decide +kernel
theorem dX8_shifted_34 : decode cX8_shifted 34 = .ok (.lconst 1, 1) := by decide +kernel
theorem dX8_shifted_35 : decode cX8_shifted 35 = .ok (.iload 7, 2) := by decide +kernel
theorem dX8_shifted_37 : decode cX8_shifted 37 = .ok (.iload 4, 2) := by decide +kernel
theorem dX8_shifted_39 : decode cX8_shifted 39 = .ok (.iadd, 1) := by decide +kernel
theorem dX8_shifted_40 : decode cX8_shifted 40 = .ok (.lshl, 1) := by decide +kernel
theorem dX8_shifted_41 : decode cX8_shifted 41 = .ok (.goto 4, 3) := by decide +kernel
theorem dX8_shifted_44 : decode cX8_shifted 44 = .ok (.lconst 0, 1) := by decide +kernel
theorem dX8_shifted_45 : decode cX8_shifted 45 = .ok (.lor, 1) := by decide +kernel
theorem dX8_shifted_46 : decode cX8_shifted 46 = .ok (.lstore 5, 2) := by decide +kernel
theorem dX8_shifted_48 : decode cX8_shifted 48 = .ok (.iinc 7 1, 3) := by decide +kernel
theorem dX8_shifted_51 : decode cX8_shifted 51 = .ok (.goto (-35), 3) := by decide +kernel
theorem dX8_shifted_54 : decode cX8_shifted 54 = .ok (.lload 5, 2) := by decide +kernel
theorem dX8_shifted_56 : decode cX8_shifted 56 = .ok (.lreturn, 1) := by decide +kernel
set_option maxRecDepth 20000 in
theorem ggX8_turn_X8_isFigure : GoodIn wsX8_turn wsX8_isFigure := goodIn_r _ [6, 1, 7, 8, 5, 9] (by decide +kernel) (by decide +kernel)
set_option maxRecDepth 20000 in
theorem gX8_turn_X8_isFigure : GoodIn wsX8_turn (va_wsS RX8 106 yX8_isFigure wsX8_isFigure) := goodIn_app (goodIn_of _ (by decide +kernel)) ggX8_turn_X8_isFigure
set_option maxRecDepth 20000 in
theorem ggX8_turn_X8_in : GoodIn wsX8_turn wsX8_in := goodIn_r _ [9] (by decide +kernel) (by decide +kernel)
set_option maxRecDepth 20000 in
theorem gX8_turn_X8_in : GoodIn wsX8_turn (va_wsS RX8 75 yX8_in wsX8_in) := goodIn_app (goodIn_of _ (by decide +kernel)) ggX8_turn_X8_in
set_option maxRecDepth 20000 in
theorem ggX8_turn_X8_turnedBy : GoodIn wsX8_turn wsX8_turnedBy := goodIn_r _ [13, 14, 15, 16, 5, 17, 18, 19, 20, 21, 22, 23, 24, 25, 26, 27, 28, 29, 30, 31, 32, 33, 34, 35, 36, 37, 38, 39, 40] (by decide +kernel) (by decide +kernel)
set_option maxRecDepth 20000 in
theorem gX8_turn_X8_turnedBy : GoodIn wsX8_turn (wsV RX8 155 RX8 yX8_turnedBy wsX8_turnedBy) := goodIn_app (goodIn_of _ (by decide +kernel)) ggX8_turn_X8_turnedBy
theorem dX8_turn_0 : decode cX8_turn 0 = .ok (.iload_n 1, 1) := by decide +kernel
theorem dX8_turn_1 : decode cX8_turn 1 = .ok (.invokestatic 106, 3) := by decide +kernel
theorem dX8_turn_4 : decode cX8_turn 4 = .ok (.ifCond .ne 5, 3) := by decide +kernel
theorem dX8_turn_7 : decode cX8_turn 7 = .ok (.iconst (-1), 1) := by decide +kernel
theorem dX8_turn_8 : decode cX8_turn 8 = .ok (.ireturn, 1) := by decide +kernel
theorem dX8_turn_9 : decode cX8_turn 9 = .ok (.iload_n 2, 1) := by decide +kernel
theorem dX8_turn_10 : decode cX8_turn 10 = .ok (.i2l, 1) := by decide +kernel
theorem dX8_turn_11 : decode cX8_turn 11 = .ok (.lconst 0, 1) := by decide +kernel
theorem dX8_turn_12 : decode cX8_turn 12 = .ok (.ldc2_w 81, 3) := by decide +kernel
theorem dX8_turn_15 : decode cX8_turn 15 = .ok (.invokestatic 75, 3) := by decide +kernel
theorem dX8_turn_18 : decode cX8_turn 18 = .ok (.ifCond .ne 6, 3) := by decide +kernel
theorem dX8_turn_21 : decode cX8_turn 21 = .ok (.bipush (-2), 2) := by decide +kernel
theorem dX8_turn_23 : decode cX8_turn 23 = .ok (.ireturn, 1) := by decide +kernel
theorem dX8_turn_24 : decode cX8_turn 24 = .ok (.aload_n 0, 1) := by decide +kernel
theorem dX8_turn_25 : decode cX8_turn 25 = .ok (.getfield 17, 3) := by decide +kernel
theorem dX8_turn_28 : decode cX8_turn 28 = .ok (.iload_n 1, 1) := by decide +kernel
theorem dX8_turn_29 : decode cX8_turn 29 = .ok (.laload, 1) := by decide +kernel
theorem dX8_turn_30 : decode cX8_turn 30 = .ok (.lstore_n 3, 1) := by decide +kernel
theorem dX8_turn_31 : decode cX8_turn 31 = .ok (.aload_n 0, 1) := by decide +kernel
theorem dX8_turn_32 : decode cX8_turn 32 = .ok (.getfield 17, 3) := by decide +kernel
theorem dX8_turn_35 : decode cX8_turn 35 = .ok (.iload_n 1, 1) := by decide +kernel
theorem dX8_turn_36 : decode cX8_turn 36 = .ok (.aload_n 0, 1) := by decide +kernel
theorem dX8_turn_37 : decode cX8_turn 37 = .ok (.lload_n 3, 1) := by decide +kernel
theorem dX8_turn_38 : decode cX8_turn 38 = .ok (.iload_n 2, 1) := by decide +kernel
theorem dX8_turn_39 : decode cX8_turn 39 = .ok (.invokevirtual 155, 3) := by decide +kernel
theorem dX8_turn_42 : decode cX8_turn 42 = .ok (.lastore, 1) := by decide +kernel
theorem dX8_turn_43 : decode cX8_turn 43 = .ok (.lload_n 3, 1) := by decide +kernel
theorem dX8_turn_44 : decode cX8_turn 44 = .ok (.aload_n 0, 1) := by decide +kernel
theorem dX8_turn_45 : decode cX8_turn 45 = .ok (.getfield 17, 3) := by decide +kernel
theorem dX8_turn_48 : decode cX8_turn 48 = .ok (.iload_n 1, 1) := by decide +kernel
theorem dX8_turn_49 : decode cX8_turn 49 = .ok (.laload, 1) := by decide +kernel
theorem dX8_turn_50 : decode cX8_turn 50 = .ok (.lcmp, 1) := by decide +kernel
theorem dX8_turn_51 : decode cX8_turn 51 = .ok (.ifCond .ne 7, 3) := by decide +kernel
theorem dX8_turn_54 : decode cX8_turn 54 = .ok (.iconst 0, 1) := by decide +kernel
theorem dX8_turn_55 : decode cX8_turn 55 = .ok (.goto 4, 3) := by decide +kernel
theorem dX8_turn_58 : decode cX8_turn 58 = .ok (.iconst 1, 1) := by decide +kernel
theorem dX8_turn_59 : decode cX8_turn 59 = .ok (.ireturn, 1) := by decide +kernel
set_option maxRecDepth 20000 in
theorem ggX8_shift_X8_isFigure : GoodIn wsX8_shift wsX8_isFigure := goodIn_r _ [7, 8, 9, 10, 6, 11] (by decide +kernel) (by decide +kernel)
set_option maxRecDepth 20000 in
theorem gX8_shift_X8_isFigure : GoodIn wsX8_shift (va_wsS RX8 106 yX8_isFigure wsX8_isFigure) := goodIn_app (goodIn_of _ (by decide +kernel)) ggX8_shift_X8_isFigure
set_option maxRecDepth 20000 in
theorem ggX8_shift_X8_in : GoodIn wsX8_shift wsX8_in := goodIn_r _ [11] (by decide +kernel) (by decide +kernel)
set_option maxRecDepth 20000 in
theorem gX8_shift_X8_in : GoodIn wsX8_shift (va_wsS RX8 75 yX8_in wsX8_in) := goodIn_app (goodIn_of _ (by decide +kernel)) ggX8_shift_X8_in
set_option maxRecDepth 20000 in
theorem ggX8_shift_X8_stays : GoodIn wsX8_shift wsX8_stays := goodIn_r _ [15, 2, 16, 17, 6, 18, 9, 10, 11] (by decide +kernel) (by decide +kernel)
set_option maxRecDepth 20000 in
theorem gX8_shift_X8_stays : GoodIn wsX8_shift (wsV RX8 160 RX8 yX8_stays wsX8_stays) := goodIn_app (goodIn_of _ (by decide +kernel)) ggX8_shift_X8_stays
set_option maxRecDepth 20000 in
theorem ggX8_shift_X8_shifted : GoodIn wsX8_shift wsX8_shifted := goodIn_r _ [21, 16, 17, 6, 18] (by decide +kernel) (by decide +kernel)
set_option maxRecDepth 20000 in
theorem gX8_shift_X8_shifted : GoodIn wsX8_shift (va_wsS RX8 164 yX8_shifted wsX8_shifted) := goodIn_app (goodIn_of _ (by decide +kernel)) ggX8_shift_X8_shifted
set_option maxRecDepth 20000 in
theorem ggX8_shift_X8_ones : GoodIn wsX8_shift wsX8_ones := goodIn_r _ [24] (by decide +kernel) (by decide +kernel)
set_option maxRecDepth 20000 in
theorem gX8_shift_X8_ones : GoodIn wsX8_shift (va_wsS RX8 110 yX8_ones wsX8_ones) := goodIn_app (goodIn_of _ (by decide +kernel)) ggX8_shift_X8_ones
theorem dX8_shift_0 : decode cX8_shift 0 = .ok (.iload_n 1, 1) := by decide +kernel
theorem dX8_shift_1 : decode cX8_shift 1 = .ok (.invokestatic 106, 3) := by decide +kernel
theorem dX8_shift_4 : decode cX8_shift 4 = .ok (.ifCond .ne 5, 3) := by decide +kernel
theorem dX8_shift_7 : decode cX8_shift 7 = .ok (.iconst (-1), 1) := by decide +kernel
theorem dX8_shift_8 : decode cX8_shift 8 = .ok (.ireturn, 1) := by decide +kernel
theorem dX8_shift_9 : decode cX8_shift 9 = .ok (.iload_n 2, 1) := by decide +kernel
theorem dX8_shift_10 : decode cX8_shift 10 = .ok (.i2l, 1) := by decide +kernel
theorem dX8_shift_11 : decode cX8_shift 11 = .ok (.ldc2_w 158, 3) := by decide +kernel
theorem dX8_shift_14 : decode cX8_shift 14 = .ok (.ldc2_w 73, 3) := by decide +kernel
theorem dX8_shift_17 : decode cX8_shift 17 = .ok (.invokestatic 75, 3) := by decide +kernel
theorem dX8_shift_20 : decode cX8_shift 20 = .ok (.ifCond .eq 17, 3) := by decide +kernel
theorem dX8_shift_23 : decode cX8_shift 23 = .ok (.iload_n 3, 1) := by decide +kernel
theorem dX8_shift_24 : decode cX8_shift 24 = .ok (.i2l, 1) := by decide +kernel
theorem dX8_shift_25 : decode cX8_shift 25 = .ok (.ldc2_w 158, 3) := by decide +kernel
theorem dX8_shift_28 : decode cX8_shift 28 = .ok (.ldc2_w 73, 3) := by decide +kernel
theorem dX8_shift_31 : decode cX8_shift 31 = .ok (.invokestatic 75, 3) := by decide +kernel
theorem dX8_shift_34 : decode cX8_shift 34 = .ok (.ifCond .ne 6, 3) := by decide +kernel
theorem dX8_shift_37 : decode cX8_shift 37 = .ok (.bipush (-2), 2) := by decide +kernel
theorem dX8_shift_39 : decode cX8_shift 39 = .ok (.ireturn, 1) := by decide +kernel
theorem dX8_shift_40 : decode cX8_shift 40 = .ok (.aload_n 0, 1) := by decide +kernel
theorem dX8_shift_41 : decode cX8_shift 41 = .ok (.aload_n 0, 1) := by decide +kernel
theorem dX8_shift_42 : decode cX8_shift 42 = .ok (.getfield 17, 3) := by decide +kernel
theorem dX8_shift_45 : decode cX8_shift 45 = .ok (.iload_n 1, 1) := by decide +kernel
theorem dX8_shift_46 : decode cX8_shift 46 = .ok (.laload, 1) := by decide +kernel
theorem dX8_shift_47 : decode cX8_shift 47 = .ok (.iload_n 2, 1) := by decide +kernel
theorem dX8_shift_48 : decode cX8_shift 48 = .ok (.iload_n 3, 1) := by decide +kernel
theorem dX8_shift_49 : decode cX8_shift 49 = .ok (.invokevirtual 160, 3) := by decide +kernel
theorem dX8_shift_52 : decode cX8_shift 52 = .ok (.ifCond .ne 6, 3) := by decide +kernel
theorem dX8_shift_55 : decode cX8_shift 55 = .ok (.bipush (-3), 2) := by decide +kernel
theorem dX8_shift_57 : decode cX8_shift 57 = .ok (.ireturn, 1) := by decide +kernel
theorem dX8_shift_58 : decode cX8_shift 58 = .ok (.aload_n 0, 1) := by decide +kernel
theorem dX8_shift_59 : decode cX8_shift 59 = .ok (.getfield 17, 3) := by decide +kernel
theorem dX8_shift_62 : decode cX8_shift 62 = .ok (.iload_n 1, 1) := by decide +kernel
theorem dX8_shift_63 : decode cX8_shift 63 = .ok (.aload_n 0, 1) := by decide +kernel
theorem dX8_shift_64 : decode cX8_shift 64 = .ok (.getfield 17, 3) := by decide +kernel
theorem dX8_shift_67 : decode cX8_shift 67 = .ok (.iload_n 1, 1) := by decide +kernel
theorem dX8_shift_68 : decode cX8_shift 68 = .ok (.laload, 1) := by decide +kernel
theorem dX8_shift_69 : decode cX8_shift 69 = .ok (.iload_n 2, 1) := by decide +kernel
theorem dX8_shift_70 : decode cX8_shift 70 = .ok (.iload_n 3, 1) := by decide +kernel
theorem dX8_shift_71 : decode cX8_shift 71 = .ok (.invokestatic 164, 3) := by decide +kernel
theorem dX8_shift_74 : decode cX8_shift 74 = .ok (.lastore, 1) := by decide +kernel
theorem dX8_shift_75 : decode cX8_shift 75 = .ok (.aload_n 0, 1) := by decide +kernel
theorem dX8_shift_76 : decode cX8_shift 76 = .ok (.getfield 17, 3) := by decide +kernel
theorem dX8_shift_79 : decode cX8_shift 79 = .ok (.iload_n 1, 1) := by decide +kernel
theorem dX8_shift_80 : decode cX8_shift 80 = .ok (.laload, 1) := by decide +kernel
theorem dX8_shift_81 : decode cX8_shift 81 = .ok (.invokestatic 110, 3) := by decide +kernel
theorem dX8_shift_84 : decode cX8_shift 84 = .ok (.ireturn, 1) := by decide +kernel
set_option maxRecDepth 20000 in
theorem ggX8_addLike_X8_less : GoodIn wsX8_addLike wsX8_less := goodIn_r _ [6, 7] (by decide +kernel) (by decide +kernel)
set_option maxRecDepth 20000 in
theorem gX8_addLike_X8_less : GoodIn wsX8_addLike (va_wsS RX8 171 yX8_less wsX8_less) := goodIn_app (goodIn_of _ (by decide +kernel)) ggX8_addLike_X8_less
theorem dX8_addLike_0 : decode cX8_addLike 0 = .ok (.iconst 0, 1) := by decide +kernel
theorem dX8_addLike_1 : decode cX8_addLike 1 = .ok (.istore_n 3, 1) := by decide +kernel
theorem dX8_addLike_2 : decode cX8_addLike 2 = .ok (.iload_n 3, 1) := by decide +kernel
theorem dX8_addLike_3 : decode cX8_addLike 3 = .ok (.aload_n 0, 1) := by decide +kernel
theorem dX8_addLike_4 : decode cX8_addLike 4 = .ok (.getfield 168, 3) := by decide +kernel
theorem dX8_addLike_7 : decode cX8_addLike 7 = .ok (.if_icmp .ge 22, 3) := by decide +kernel
theorem dX8_addLike_10 : decode cX8_addLike 10 = .ok (.aload_n 0, 1) := by decide +kernel
theorem dX8_addLike_11 : decode cX8_addLike 11 = .ok (.getfield 30, 3) := by decide +kernel
theorem dX8_addLike_14 : decode cX8_addLike 14 = .ok (.iload_n 3, 1) := by decide +kernel
theorem dX8_addLike_15 : decode cX8_addLike 15 = .ok (.laload, 1) := by decide +kernel
theorem dX8_addLike_16 : decode cX8_addLike 16 = .ok (.lload_n 1, 1) := by decide +kernel
theorem dX8_addLike_17 : decode cX8_addLike 17 = .ok (.invokestatic 171, 3) := by decide +kernel
theorem dX8_addLike_20 : decode cX8_addLike 20 = .ok (.ifCond .eq 9, 3) := by decide +kernel
theorem dX8_addLike_23 : decode cX8_addLike 23 = .ok (.iinc 3 1, 3) := by decide +kernel
theorem dX8_addLike_26 : decode cX8_addLike 26 = .ok (.goto (-24), 3) := by decide +kernel
theorem dX8_addLike_29 : decode cX8_addLike 29 = .ok (.iload_n 3, 1) := by decide +kernel
theorem dX8_addLike_30 : decode cX8_addLike 30 = .ok (.aload_n 0, 1) := by decide +kernel
theorem dX8_addLike_31 : decode cX8_addLike 31 = .ok (.getfield 168, 3) := by decide +kernel
theorem dX8_addLike_34 : decode cX8_addLike 34 = .ok (.if_icmp .ge 15, 3) := by decide +kernel
theorem dX8_addLike_37 : decode cX8_addLike 37 = .ok (.aload_n 0, 1) := by decide +kernel
theorem dX8_addLike_38 : decode cX8_addLike 38 = .ok (.getfield 30, 3) := by decide +kernel
theorem dX8_addLike_41 : decode cX8_addLike 41 = .ok (.iload_n 3, 1) := by decide +kernel
theorem dX8_addLike_42 : decode cX8_addLike 42 = .ok (.laload, 1) := by decide +kernel
theorem dX8_addLike_43 : decode cX8_addLike 43 = .ok (.lload_n 1, 1) := by decide +kernel
theorem dX8_addLike_44 : decode cX8_addLike 44 = .ok (.lcmp, 1) := by decide +kernel
theorem dX8_addLike_45 : decode cX8_addLike 45 = .ok (.ifCond .ne 4, 3) := by decide +kernel
theorem dX8_addLike_48 : decode cX8_addLike 48 = .ok (.return_, 1) := by decide +kernel
theorem dX8_addLike_49 : decode cX8_addLike 49 = .ok (.aload_n 0, 1) := by decide +kernel
theorem dX8_addLike_50 : decode cX8_addLike 50 = .ok (.getfield 168, 3) := by decide +kernel
theorem dX8_addLike_53 : decode cX8_addLike 53 = .ok (.istore 4, 2) := by decide +kernel
theorem dX8_addLike_55 : decode cX8_addLike 55 = .ok (.iload 4, 2) := by decide +kernel
theorem dX8_addLike_57 : decode cX8_addLike 57 = .ok (.iload_n 3, 1) := by decide +kernel
theorem dX8_addLike_58 : decode cX8_addLike 58 = .ok (.if_icmp .le 25, 3) := by decide +kernel
theorem dX8_addLike_61 : decode cX8_addLike 61 = .ok (.aload_n 0, 1) := by decide +kernel
theorem dX8_addLike_62 : decode cX8_addLike 62 = .ok (.getfield 30, 3) := by decide +kernel
theorem dX8_addLike_65 : decode cX8_addLike 65 = .ok (.iload 4, 2) := by decide +kernel
theorem dX8_addLike_67 : decode cX8_addLike 67 = .ok (.aload_n 0, 1) := by decide +kernel
theorem dX8_addLike_68 : decode cX8_addLike 68 = .ok (.getfield 30, 3) := by decide +kernel
theorem dX8_addLike_71 : decode cX8_addLike 71 = .ok (.iload 4, 2) := by decide +kernel
theorem dX8_addLike_73 : decode cX8_addLike 73 = .ok (.iconst 1, 1) := by decide +kernel
theorem dX8_addLike_74 : decode cX8_addLike 74 = .ok (.isub, 1) := by decide +kernel
theorem dX8_addLike_75 : decode cX8_addLike 75 = .ok (.laload, 1) := by decide +kernel
theorem dX8_addLike_76 : decode cX8_addLike 76 = .ok (.lastore, 1) := by decide +kernel
theorem dX8_addLike_77 : decode cX8_addLike 77 = .ok (.iinc 4 (-1), 3) := by decide +kernel
theorem dX8_addLike_80 : decode cX8_addLike 80 = .ok (.goto (-25), 3) := by decide +kernel
theorem dX8_addLike_83 : decode cX8_addLike 83 = .ok (.aload_n 0, 1) := by decide +kernel
theorem dX8_addLike_84 : decode cX8_addLike 84 = .ok (.getfield 30, 3) := by decide +kernel
theorem dX8_addLike_87 : decode cX8_addLike 87 = .ok (.iload_n 3, 1) := by decide +kernel
theorem dX8_addLike_88 : decode cX8_addLike 88 = .ok (.lload_n 1, 1) := by decide +kernel
theorem dX8_addLike_89 : decode cX8_addLike 89 = .ok (.lastore, 1) := by decide +kernel
theorem dX8_addLike_90 : decode cX8_addLike 90 = .ok (.aload_n 0, 1) := by decide +kernel
theorem dX8_addLike_91 : decode cX8_addLike 91 = .ok (.dup, 1) := by decide +kernel
theorem dX8_addLike_92 : decode cX8_addLike 92 = .ok (.getfield 168, 3) := by decide +kernel
theorem dX8_addLike_95 : decode cX8_addLike 95 = .ok (.iconst 1, 1) := by decide +kernel
theorem dX8_addLike_96 : decode cX8_addLike 96 = .ok (.iadd, 1) := by decide +kernel
theorem dX8_addLike_97 : decode cX8_addLike 97 = .ok (.putfield 168, 3) := by decide +kernel
theorem dX8_addLike_100 : decode cX8_addLike 100 = .ok (.return_, 1) := by decide +kernel
set_option maxRecDepth 20000 in
theorem ggX8_layLikes_X8_turnedBy : GoodIn wsX8_layLikes wsX8_turnedBy := goodIn_r _ [6, 7, 8, 9, 5, 10, 31, 32, 33, 34, 35, 36, 37, 38, 39, 40, 41, 42, 43, 44, 45, 46, 47, 48, 49, 50, 51, 52, 53] (by decide +kernel) (by decide +kernel)
set_option maxRecDepth 20000 in
theorem gX8_layLikes_X8_turnedBy : GoodIn wsX8_layLikes (wsV RX8 155 RX8 yX8_turnedBy wsX8_turnedBy) := goodIn_app (goodIn_of _ (by decide +kernel)) ggX8_layLikes_X8_turnedBy
set_option maxRecDepth 20000 in
theorem ggX8_layLikes_X8_stays : GoodIn wsX8_layLikes wsX8_stays := goodIn_r _ [14, 15, 8, 9, 5, 10, 16, 17, 18] (by decide +kernel) (by decide +kernel)
set_option maxRecDepth 20000 in
theorem gX8_layLikes_X8_stays : GoodIn wsX8_layLikes (wsV RX8 160 RX8 yX8_stays wsX8_stays) := goodIn_app (goodIn_of _ (by decide +kernel)) ggX8_layLikes_X8_stays
set_option maxRecDepth 20000 in
theorem ggX8_layLikes_X8_shifted : GoodIn wsX8_layLikes wsX8_shifted := goodIn_r _ [21, 8, 9, 5, 10] (by decide +kernel) (by decide +kernel)
set_option maxRecDepth 20000 in
theorem gX8_layLikes_X8_shifted : GoodIn wsX8_layLikes (va_wsS RX8 164 yX8_shifted wsX8_shifted) := goodIn_app (goodIn_of _ (by decide +kernel)) ggX8_layLikes_X8_shifted
set_option maxRecDepth 20000 in
theorem ggX8_layLikes_X8_addLike : GoodIn wsX8_layLikes wsX8_addLike := goodIn_r _ [25, 1, 26, 27, 28, 5, 29, 30, 31, 32, 33, 34, 35, 36, 37, 38, 39, 40, 41, 42, 43, 44, 45, 46, 47, 48, 49, 50, 51, 52, 53] (by decide +kernel) (by decide +kernel)
set_option maxRecDepth 20000 in
theorem gX8_layLikes_X8_addLike : GoodIn wsX8_layLikes (wsV RX8 175 RX8 yX8_addLike wsX8_addLike) := goodIn_app (goodIn_of _ (by decide +kernel)) ggX8_layLikes_X8_addLike
theorem dX8_layLikes_0 : decode cX8_layLikes 0 = .ok (.aload_n 0, 1) := by decide +kernel
theorem dX8_layLikes_1 : decode cX8_layLikes 1 = .ok (.iconst 0, 1) := by decide +kernel
theorem dX8_layLikes_2 : decode cX8_layLikes 2 = .ok (.putfield 168, 3) := by decide +kernel
theorem dX8_layLikes_5 : decode cX8_layLikes 5 = .ok (.iconst 0, 1) := by decide +kernel
theorem dX8_layLikes_6 : decode cX8_layLikes 6 = .ok (.istore 4, 2) := by decide +kernel
theorem dX8_layLikes_8 : decode cX8_layLikes 8 = .ok (.iload 4, 2) := by decide +kernel
theorem dX8_layLikes_10 : decode cX8_layLikes 10 = .ok (.iload_n 3, 1) := by decide +kernel
theorem dX8_layLikes_11 : decode cX8_layLikes 11 = .ok (.if_icmp .ge 80, 3) := by decide +kernel
theorem dX8_layLikes_14 : decode cX8_layLikes 14 = .ok (.aload_n 0, 1) := by decide +kernel
theorem dX8_layLikes_15 : decode cX8_layLikes 15 = .ok (.lload_n 1, 1) := by decide +kernel
theorem dX8_layLikes_16 : decode cX8_layLikes 16 = .ok (.iload 4, 2) := by decide +kernel
theorem dX8_layLikes_18 : decode cX8_layLikes 18 = .ok (.invokevirtual 155, 3) := by decide +kernel
theorem dX8_layLikes_21 : decode cX8_layLikes 21 = .ok (.lstore 5, 2) := by decide +kernel
theorem dX8_layLikes_23 : decode cX8_layLikes 23 = .ok (.iconst 0, 1) := by decide +kernel
theorem dX8_layLikes_24 : decode cX8_layLikes 24 = .ok (.istore 7, 2) := by decide +kernel
theorem dX8_layLikes_26 : decode cX8_layLikes 26 = .ok (.iload 7, 2) := by decide +kernel
theorem dX8_layLikes_28 : decode cX8_layLikes 28 = .ok (.bipush 49, 2) := by decide +kernel
theorem dX8_layLikes_30 : decode cX8_layLikes 30 = .ok (.if_icmp .ge 55, 3) := by decide +kernel
theorem dX8_layLikes_33 : decode cX8_layLikes 33 = .ok (.aload_n 0, 1) := by decide +kernel
theorem dX8_layLikes_34 : decode cX8_layLikes 34 = .ok (.lload 5, 2) := by decide +kernel
theorem dX8_layLikes_36 : decode cX8_layLikes 36 = .ok (.iload 7, 2) := by decide +kernel
theorem dX8_layLikes_38 : decode cX8_layLikes 38 = .ok (.bipush 7, 2) := by decide +kernel
theorem dX8_layLikes_40 : decode cX8_layLikes 40 = .ok (.irem, 1) := by decide +kernel
theorem dX8_layLikes_41 : decode cX8_layLikes 41 = .ok (.iconst 3, 1) := by decide +kernel
theorem dX8_layLikes_42 : decode cX8_layLikes 42 = .ok (.isub, 1) := by decide +kernel
theorem dX8_layLikes_43 : decode cX8_layLikes 43 = .ok (.iload 7, 2) := by decide +kernel
theorem dX8_layLikes_45 : decode cX8_layLikes 45 = .ok (.bipush 7, 2) := by decide +kernel
theorem dX8_layLikes_47 : decode cX8_layLikes 47 = .ok (.idiv, 1) := by decide +kernel
theorem dX8_layLikes_48 : decode cX8_layLikes 48 = .ok (.iconst 3, 1) := by decide +kernel
theorem dX8_layLikes_49 : decode cX8_layLikes 49 = .ok (.isub, 1) := by decide +kernel
theorem dX8_layLikes_50 : decode cX8_layLikes 50 = .ok (.invokevirtual 160, 3) := by decide +kernel
theorem dX8_layLikes_53 : decode cX8_layLikes 53 = .ok (.ifCond .eq 26, 3) := by decide +kernel
theorem dX8_layLikes_56 : decode cX8_layLikes 56 = .ok (.aload_n 0, 1) := by decide +kernel
theorem dX8_layLikes_57 : decode cX8_layLikes 57 = .ok (.lload 5, 2) := by decide +kernel
theorem dX8_layLikes_59 : decode cX8_layLikes 59 = .ok (.iload 7, 2) := by decide +kernel
theorem dX8_layLikes_61 : decode cX8_layLikes 61 = .ok (.bipush 7, 2) := by decide +kernel
theorem dX8_layLikes_63 : decode cX8_layLikes 63 = .ok (.irem, 1) := by decide +kernel
theorem dX8_layLikes_64 : decode cX8_layLikes 64 = .ok (.iconst 3, 1) := by decide +kernel
theorem dX8_layLikes_65 : decode cX8_layLikes 65 = .ok (.isub, 1) := by decide +kernel
theorem dX8_layLikes_66 : decode cX8_layLikes 66 = .ok (.iload 7, 2) := by decide +kernel
theorem dX8_layLikes_68 : decode cX8_layLikes 68 = .ok (.bipush 7, 2) := by decide +kernel
theorem dX8_layLikes_70 : decode cX8_layLikes 70 = .ok (.idiv, 1) := by decide +kernel
theorem dX8_layLikes_71 : decode cX8_layLikes 71 = .ok (.iconst 3, 1) := by decide +kernel
theorem dX8_layLikes_72 : decode cX8_layLikes 72 = .ok (.isub, 1) := by decide +kernel
theorem dX8_layLikes_73 : decode cX8_layLikes 73 = .ok (.invokestatic 164, 3) := by decide +kernel
theorem dX8_layLikes_76 : decode cX8_layLikes 76 = .ok (.invokevirtual 175, 3) := by decide +kernel
theorem dX8_layLikes_79 : decode cX8_layLikes 79 = .ok (.iinc 7 1, 3) := by decide +kernel
theorem dX8_layLikes_82 : decode cX8_layLikes 82 = .ok (.goto (-56), 3) := by decide +kernel
theorem dX8_layLikes_85 : decode cX8_layLikes 85 = .ok (.iinc 4 1, 3) := by decide +kernel
theorem dX8_layLikes_88 : decode cX8_layLikes 88 = .ok (.goto (-80), 3) := by decide +kernel
theorem dX8_layLikes_91 : decode cX8_layLikes 91 = .ok (.return_, 1) := by decide +kernel
set_option maxRecDepth 20000 in
theorem ggX8_formOf_X8_layLikes : GoodIn wsX8_formOf wsX8_layLikes := goodIn_r _ [6, 7, 8, 9, 10, 5, 11, 12, 13, 14, 15, 16, 17, 18, 19, 20, 21, 22, 23, 24, 25, 26, 27, 28, 29, 30, 1, 31, 32, 33, 34, 35, 36, 37, 38, 39, 40, 41, 42, 43, 44, 45, 46, 47, 48, 49, 50, 51, 52, 53, 54, 55, 56, 57] (by decide +kernel) (by decide +kernel)
set_option maxRecDepth 20000 in
theorem gX8_formOf_X8_layLikes : GoodIn wsX8_formOf (wsV RX8 178 RX8 yX8_layLikes wsX8_layLikes) := goodIn_app (goodIn_of _ (by decide +kernel)) ggX8_formOf_X8_layLikes
theorem dX8_formOf_0 : decode cX8_formOf 0 = .ok (.lload_n 1, 1) := by decide +kernel
theorem dX8_formOf_1 : decode cX8_formOf 1 = .ok (.lconst 0, 1) := by decide +kernel
theorem dX8_formOf_2 : decode cX8_formOf 2 = .ok (.lcmp, 1) := by decide +kernel
theorem dX8_formOf_3 : decode cX8_formOf 3 = .ok (.ifCond .ne 5, 3) := by decide +kernel
theorem dX8_formOf_6 : decode cX8_formOf 6 = .ok (.lconst 0, 1) := by decide +kernel
theorem dX8_formOf_7 : decode cX8_formOf 7 = .ok (.lreturn, 1) := by decide +kernel
theorem dX8_formOf_8 : decode cX8_formOf 8 = .ok (.aload_n 0, 1) := by decide +kernel
theorem dX8_formOf_9 : decode cX8_formOf 9 = .ok (.lload_n 1, 1) := by decide +kernel
theorem dX8_formOf_10 : decode cX8_formOf 10 = .ok (.bipush 8, 2) := by decide +kernel
theorem dX8_formOf_12 : decode cX8_formOf 12 = .ok (.invokevirtual 178, 3) := by decide +kernel
theorem dX8_formOf_15 : decode cX8_formOf 15 = .ok (.aload_n 0, 1) := by decide +kernel
theorem dX8_formOf_16 : decode cX8_formOf 16 = .ok (.getfield 30, 3) := by decide +kernel
theorem dX8_formOf_19 : decode cX8_formOf 19 = .ok (.iconst 0, 1) := by decide +kernel
theorem dX8_formOf_20 : decode cX8_formOf 20 = .ok (.laload, 1) := by decide +kernel
theorem dX8_formOf_21 : decode cX8_formOf 21 = .ok (.lreturn, 1) := by decide +kernel
set_option maxRecDepth 20000 in
theorem ggX8_form_X8_isFigure : GoodIn wsX8_form wsX8_isFigure := goodIn_r _ [5, 6, 7, 8, 4, 9] (by decide +kernel) (by decide +kernel)
set_option maxRecDepth 20000 in
theorem gX8_form_X8_isFigure : GoodIn wsX8_form (va_wsS RX8 106 yX8_isFigure wsX8_isFigure) := goodIn_app (goodIn_of _ (by decide +kernel)) ggX8_form_X8_isFigure
set_option maxRecDepth 20000 in
theorem ggX8_form_X8_formOf : GoodIn wsX8_form wsX8_formOf := goodIn_r _ [13, 14, 15, 16, 17, 4, 18, 19, 20, 21, 22, 23, 24, 25, 26, 27, 28, 29, 30, 31, 32, 7, 8, 9, 33, 34, 35, 36, 37, 38, 39, 40, 41, 42, 43, 44, 45, 46, 47, 48, 49, 50, 51, 52, 53, 54, 55, 56, 57, 58, 59, 60, 61, 62, 63, 64, 65, 66] (by decide +kernel) (by decide +kernel)
set_option maxRecDepth 20000 in
theorem gX8_form_X8_formOf : GoodIn wsX8_form (wsV RX8 181 RX8 yX8_formOf wsX8_formOf) := goodIn_app (goodIn_of _ (by decide +kernel)) ggX8_form_X8_formOf
theorem dX8_form_0 : decode cX8_form 0 = .ok (.iload_n 1, 1) := by decide +kernel
theorem dX8_form_1 : decode cX8_form 1 = .ok (.invokestatic 106, 3) := by decide +kernel
theorem dX8_form_4 : decode cX8_form 4 = .ok (.ifCond .eq 16, 3) := by decide +kernel
theorem dX8_form_7 : decode cX8_form 7 = .ok (.aload_n 0, 1) := by decide +kernel
theorem dX8_form_8 : decode cX8_form 8 = .ok (.aload_n 0, 1) := by decide +kernel
theorem dX8_form_9 : decode cX8_form 9 = .ok (.getfield 17, 3) := by decide +kernel
theorem dX8_form_12 : decode cX8_form 12 = .ok (.iload_n 1, 1) := by decide +kernel
theorem dX8_form_13 : decode cX8_form 13 = .ok (.laload, 1) := by decide +kernel
theorem dX8_form_14 : decode cX8_form 14 = .ok (.invokevirtual 181, 3) := by decide +kernel
theorem dX8_form_17 : decode cX8_form 17 = .ok (.goto 4, 3) := by decide +kernel
theorem dX8_form_20 : decode cX8_form 20 = .ok (.lconst 0, 1) := by decide +kernel
theorem dX8_form_21 : decode cX8_form 21 = .ok (.lreturn, 1) := by decide +kernel
set_option maxRecDepth 20000 in
theorem ggX8_like_X8_isFigure : GoodIn wsX8_like wsX8_isFigure := goodIn_r _ [5, 6, 7, 8, 4, 9] (by decide +kernel) (by decide +kernel)
set_option maxRecDepth 20000 in
theorem gX8_like_X8_isFigure : GoodIn wsX8_like (va_wsS RX8 106 yX8_isFigure wsX8_isFigure) := goodIn_app (goodIn_of _ (by decide +kernel)) ggX8_like_X8_isFigure
set_option maxRecDepth 20000 in
theorem ggX8_like_X8_formOf : GoodIn wsX8_like wsX8_formOf := goodIn_r _ [13, 14, 15, 16, 17, 4, 18, 19, 20, 21, 22, 23, 24, 25, 26, 27, 28, 29, 30, 31, 32, 7, 8, 9, 33, 34, 35, 36, 37, 38, 39, 40, 41, 42, 43, 44, 45, 46, 47, 48, 49, 50, 51, 52, 53, 54, 55, 56, 57, 58, 59, 60, 61, 62, 63, 64, 65, 66] (by decide +kernel) (by decide +kernel)
set_option maxRecDepth 20000 in
theorem gX8_like_X8_formOf : GoodIn wsX8_like (wsV RX8 181 RX8 yX8_formOf wsX8_formOf) := goodIn_app (goodIn_of _ (by decide +kernel)) ggX8_like_X8_formOf
theorem dX8_like_0 : decode cX8_like 0 = .ok (.iload_n 1, 1) := by decide +kernel
theorem dX8_like_1 : decode cX8_like 1 = .ok (.invokestatic 106, 3) := by decide +kernel
theorem dX8_like_4 : decode cX8_like 4 = .ok (.ifCond .eq 10, 3) := by decide +kernel
theorem dX8_like_7 : decode cX8_like 7 = .ok (.iload_n 2, 1) := by decide +kernel
theorem dX8_like_8 : decode cX8_like 8 = .ok (.invokestatic 106, 3) := by decide +kernel
theorem dX8_like_11 : decode cX8_like 11 = .ok (.ifCond .ne 5, 3) := by decide +kernel
theorem dX8_like_14 : decode cX8_like 14 = .ok (.iconst (-1), 1) := by decide +kernel
theorem dX8_like_15 : decode cX8_like 15 = .ok (.ireturn, 1) := by decide +kernel
theorem dX8_like_16 : decode cX8_like 16 = .ok (.aload_n 0, 1) := by decide +kernel
theorem dX8_like_17 : decode cX8_like 17 = .ok (.aload_n 0, 1) := by decide +kernel
theorem dX8_like_18 : decode cX8_like 18 = .ok (.getfield 17, 3) := by decide +kernel
theorem dX8_like_21 : decode cX8_like 21 = .ok (.iload_n 1, 1) := by decide +kernel
theorem dX8_like_22 : decode cX8_like 22 = .ok (.laload, 1) := by decide +kernel
theorem dX8_like_23 : decode cX8_like 23 = .ok (.invokevirtual 181, 3) := by decide +kernel
theorem dX8_like_26 : decode cX8_like 26 = .ok (.aload_n 0, 1) := by decide +kernel
theorem dX8_like_27 : decode cX8_like 27 = .ok (.aload_n 0, 1) := by decide +kernel
theorem dX8_like_28 : decode cX8_like 28 = .ok (.getfield 17, 3) := by decide +kernel
theorem dX8_like_31 : decode cX8_like 31 = .ok (.iload_n 2, 1) := by decide +kernel
theorem dX8_like_32 : decode cX8_like 32 = .ok (.laload, 1) := by decide +kernel
theorem dX8_like_33 : decode cX8_like 33 = .ok (.invokevirtual 181, 3) := by decide +kernel
theorem dX8_like_36 : decode cX8_like 36 = .ok (.lcmp, 1) := by decide +kernel
theorem dX8_like_37 : decode cX8_like 37 = .ok (.ifCond .ne 7, 3) := by decide +kernel
theorem dX8_like_40 : decode cX8_like 40 = .ok (.iconst 1, 1) := by decide +kernel
theorem dX8_like_41 : decode cX8_like 41 = .ok (.goto 4, 3) := by decide +kernel
theorem dX8_like_44 : decode cX8_like 44 = .ok (.iconst 0, 1) := by decide +kernel
theorem dX8_like_45 : decode cX8_like 45 = .ok (.ireturn, 1) := by decide +kernel
set_option maxRecDepth 20000 in
theorem ggX8_itself_X8_isFigure : GoodIn wsX8_itself wsX8_isFigure := goodIn_r _ [5, 6, 7, 8, 4, 9] (by decide +kernel) (by decide +kernel)
set_option maxRecDepth 20000 in
theorem gX8_itself_X8_isFigure : GoodIn wsX8_itself (va_wsS RX8 106 yX8_isFigure wsX8_isFigure) := goodIn_app (goodIn_of _ (by decide +kernel)) ggX8_itself_X8_isFigure
set_option maxRecDepth 20000 in
theorem ggX8_itself_X8_turnedBy : GoodIn wsX8_itself wsX8_turnedBy := goodIn_r _ [13, 14, 15, 16, 4, 17, 26, 27, 28, 29, 30, 31, 32, 33, 34, 35, 36, 37, 38, 39, 40, 41, 42, 43, 44, 45, 46, 47, 48] (by decide +kernel) (by decide +kernel)
set_option maxRecDepth 20000 in
theorem gX8_itself_X8_turnedBy : GoodIn wsX8_itself (wsV RX8 155 RX8 yX8_turnedBy wsX8_turnedBy) := goodIn_app (goodIn_of _ (by decide +kernel)) ggX8_itself_X8_turnedBy
set_option maxRecDepth 20000 in
theorem ggX8_itself_X8_stays : GoodIn wsX8_itself wsX8_stays := goodIn_r _ [21, 22, 15, 16, 4, 17, 7, 8, 9] (by decide +kernel) (by decide +kernel)
set_option maxRecDepth 20000 in
theorem gX8_itself_X8_stays : GoodIn wsX8_itself (wsV RX8 160 RX8 yX8_stays wsX8_stays) := goodIn_app (goodIn_of _ (by decide +kernel)) ggX8_itself_X8_stays
set_option maxRecDepth 20000 in
theorem ggX8_itself_X8_shifted : GoodIn wsX8_itself wsX8_shifted := goodIn_r _ [25, 15, 16, 4, 17] (by decide +kernel) (by decide +kernel)
set_option maxRecDepth 20000 in
theorem gX8_itself_X8_shifted : GoodIn wsX8_itself (va_wsS RX8 164 yX8_shifted wsX8_shifted) := goodIn_app (goodIn_of _ (by decide +kernel)) ggX8_itself_X8_shifted
theorem dX8_itself_0 : decode cX8_itself 0 = .ok (.iload_n 1, 1) := by decide +kernel
theorem dX8_itself_1 : decode cX8_itself 1 = .ok (.invokestatic 106, 3) := by decide +kernel
theorem dX8_itself_4 : decode cX8_itself 4 = .ok (.ifCond .ne 5, 3) := by decide +kernel
theorem dX8_itself_7 : decode cX8_itself 7 = .ok (.iconst (-1), 1) := by decide +kernel
theorem dX8_itself_8 : decode cX8_itself 8 = .ok (.ireturn, 1) := by decide +kernel
theorem dX8_itself_9 : decode cX8_itself 9 = .ok (.iconst 0, 1) := by decide +kernel
theorem dX8_itself_10 : decode cX8_itself 10 = .ok (.istore_n 2, 1) := by decide +kernel
theorem dX8_itself_11 : decode cX8_itself 11 = .ok (.iconst 0, 1) := by decide +kernel
theorem dX8_itself_12 : decode cX8_itself 12 = .ok (.istore_n 3, 1) := by decide +kernel
theorem dX8_itself_13 : decode cX8_itself 13 = .ok (.iload_n 3, 1) := by decide +kernel
theorem dX8_itself_14 : decode cX8_itself 14 = .ok (.bipush 8, 2) := by decide +kernel
theorem dX8_itself_16 : decode cX8_itself 16 = .ok (.if_icmp .ge 118, 3) := by decide +kernel
theorem dX8_itself_19 : decode cX8_itself 19 = .ok (.aload_n 0, 1) := by decide +kernel
theorem dX8_itself_20 : decode cX8_itself 20 = .ok (.aload_n 0, 1) := by decide +kernel
theorem dX8_itself_21 : decode cX8_itself 21 = .ok (.getfield 17, 3) := by decide +kernel
theorem dX8_itself_24 : decode cX8_itself 24 = .ok (.iload_n 1, 1) := by decide +kernel
theorem dX8_itself_25 : decode cX8_itself 25 = .ok (.laload, 1) := by decide +kernel
theorem dX8_itself_26 : decode cX8_itself 26 = .ok (.iload_n 3, 1) := by decide +kernel
theorem dX8_itself_27 : decode cX8_itself 27 = .ok (.invokevirtual 155, 3) := by decide +kernel
theorem dX8_itself_30 : decode cX8_itself 30 = .ok (.lstore 4, 2) := by decide +kernel
theorem dX8_itself_32 : decode cX8_itself 32 = .ok (.iconst 0, 1) := by decide +kernel
theorem dX8_itself_33 : decode cX8_itself 33 = .ok (.istore 6, 2) := by decide +kernel
theorem dX8_itself_35 : decode cX8_itself 35 = .ok (.iconst 0, 1) := by decide +kernel
theorem dX8_itself_36 : decode cX8_itself 36 = .ok (.istore 7, 2) := by decide +kernel
theorem dX8_itself_38 : decode cX8_itself 38 = .ok (.iload 7, 2) := by decide +kernel
theorem dX8_itself_40 : decode cX8_itself 40 = .ok (.bipush 49, 2) := by decide +kernel
theorem dX8_itself_42 : decode cX8_itself 42 = .ok (.if_icmp .ge 73, 3) := by decide +kernel
theorem dX8_itself_45 : decode cX8_itself 45 = .ok (.iload 6, 2) := by decide +kernel
theorem dX8_itself_47 : decode cX8_itself 47 = .ok (.ifCond .ne 55, 3) := by decide +kernel
theorem dX8_itself_50 : decode cX8_itself 50 = .ok (.aload_n 0, 1) := by decide +kernel
theorem dX8_itself_51 : decode cX8_itself 51 = .ok (.lload 4, 2) := by decide +kernel
theorem dX8_itself_53 : decode cX8_itself 53 = .ok (.iload 7, 2) := by decide +kernel
theorem dX8_itself_55 : decode cX8_itself 55 = .ok (.bipush 7, 2) := by decide +kernel
theorem dX8_itself_57 : decode cX8_itself 57 = .ok (.irem, 1) := by decide +kernel
theorem dX8_itself_58 : decode cX8_itself 58 = .ok (.iconst 3, 1) := by decide +kernel
theorem dX8_itself_59 : decode cX8_itself 59 = .ok (.isub, 1) := by decide +kernel
theorem dX8_itself_60 : decode cX8_itself 60 = .ok (.iload 7, 2) := by decide +kernel
theorem dX8_itself_62 : decode cX8_itself 62 = .ok (.bipush 7, 2) := by decide +kernel
theorem dX8_itself_64 : decode cX8_itself 64 = .ok (.idiv, 1) := by decide +kernel
theorem dX8_itself_65 : decode cX8_itself 65 = .ok (.iconst 3, 1) := by decide +kernel
theorem dX8_itself_66 : decode cX8_itself 66 = .ok (.isub, 1) := by decide +kernel
theorem dX8_itself_67 : decode cX8_itself 67 = .ok (.invokevirtual 160, 3) := by decide +kernel
theorem dX8_itself_70 : decode cX8_itself 70 = .ok (.ifCond .eq 36, 3) := by decide +kernel
theorem dX8_itself_73 : decode cX8_itself 73 = .ok (.lload 4, 2) := by decide +kernel
theorem dX8_itself_75 : decode cX8_itself 75 = .ok (.iload 7, 2) := by decide +kernel
theorem dX8_itself_77 : decode cX8_itself 77 = .ok (.bipush 7, 2) := by decide +kernel
theorem dX8_itself_79 : decode cX8_itself 79 = .ok (.irem, 1) := by decide +kernel
theorem dX8_itself_80 : decode cX8_itself 80 = .ok (.iconst 3, 1) := by decide +kernel
theorem dX8_itself_81 : decode cX8_itself 81 = .ok (.isub, 1) := by decide +kernel
theorem dX8_itself_82 : decode cX8_itself 82 = .ok (.iload 7, 2) := by decide +kernel
theorem dX8_itself_84 : decode cX8_itself 84 = .ok (.bipush 7, 2) := by decide +kernel
theorem dX8_itself_86 : decode cX8_itself 86 = .ok (.idiv, 1) := by decide +kernel
theorem dX8_itself_87 : decode cX8_itself 87 = .ok (.iconst 3, 1) := by decide +kernel
theorem dX8_itself_88 : decode cX8_itself 88 = .ok (.isub, 1) := by decide +kernel
theorem dX8_itself_89 : decode cX8_itself 89 = .ok (.invokestatic 164, 3) := by decide +kernel
theorem dX8_itself_92 : decode cX8_itself 92 = .ok (.aload_n 0, 1) := by decide +kernel
theorem dX8_itself_93 : decode cX8_itself 93 = .ok (.getfield 17, 3) := by decide +kernel
theorem dX8_itself_96 : decode cX8_itself 96 = .ok (.iload_n 1, 1) := by decide +kernel
theorem dX8_itself_97 : decode cX8_itself 97 = .ok (.laload, 1) := by decide +kernel
theorem dX8_itself_98 : decode cX8_itself 98 = .ok (.lcmp, 1) := by decide +kernel
theorem dX8_itself_99 : decode cX8_itself 99 = .ok (.ifCond .ne 7, 3) := by decide +kernel
theorem dX8_itself_102 : decode cX8_itself 102 = .ok (.iconst 1, 1) := by decide +kernel
theorem dX8_itself_103 : decode cX8_itself 103 = .ok (.goto 4, 3) := by decide +kernel
theorem dX8_itself_106 : decode cX8_itself 106 = .ok (.iconst 0, 1) := by decide +kernel
theorem dX8_itself_107 : decode cX8_itself 107 = .ok (.istore 6, 2) := by decide +kernel
theorem dX8_itself_109 : decode cX8_itself 109 = .ok (.iinc 7 1, 3) := by decide +kernel
theorem dX8_itself_112 : decode cX8_itself 112 = .ok (.goto (-74), 3) := by decide +kernel
theorem dX8_itself_115 : decode cX8_itself 115 = .ok (.iload_n 2, 1) := by decide +kernel
theorem dX8_itself_116 : decode cX8_itself 116 = .ok (.iload 6, 2) := by decide +kernel
theorem dX8_itself_118 : decode cX8_itself 118 = .ok (.ifCond .eq 7, 3) := by decide +kernel
theorem dX8_itself_121 : decode cX8_itself 121 = .ok (.iconst 1, 1) := by decide +kernel
theorem dX8_itself_122 : decode cX8_itself 122 = .ok (.goto 4, 3) := by decide +kernel
theorem dX8_itself_125 : decode cX8_itself 125 = .ok (.iconst 0, 1) := by decide +kernel
theorem dX8_itself_126 : decode cX8_itself 126 = .ok (.iadd, 1) := by decide +kernel
theorem dX8_itself_127 : decode cX8_itself 127 = .ok (.istore_n 2, 1) := by decide +kernel
theorem dX8_itself_128 : decode cX8_itself 128 = .ok (.iinc 3 1, 3) := by decide +kernel
theorem dX8_itself_131 : decode cX8_itself 131 = .ok (.goto (-118), 3) := by decide +kernel
theorem dX8_itself_134 : decode cX8_itself 134 = .ok (.iload_n 2, 1) := by decide +kernel
theorem dX8_itself_135 : decode cX8_itself 135 = .ok (.ireturn, 1) := by decide +kernel
set_option maxRecDepth 20000 in
theorem ggX8_both_X8_isFigure : GoodIn wsX8_both wsX8_isFigure := goodIn_r _ [7, 8, 9, 10, 6, 11] (by decide +kernel) (by decide +kernel)
set_option maxRecDepth 20000 in
theorem gX8_both_X8_isFigure : GoodIn wsX8_both (va_wsS RX8 106 yX8_isFigure wsX8_isFigure) := goodIn_app (goodIn_of _ (by decide +kernel)) ggX8_both_X8_isFigure
set_option maxRecDepth 20000 in
theorem ggX8_both_X8_in : GoodIn wsX8_both wsX8_in := goodIn_r _ [11] (by decide +kernel) (by decide +kernel)
set_option maxRecDepth 20000 in
theorem gX8_both_X8_in : GoodIn wsX8_both (va_wsS RX8 75 yX8_in wsX8_in) := goodIn_app (goodIn_of _ (by decide +kernel)) ggX8_both_X8_in
set_option maxRecDepth 20000 in
theorem ggX8_both_X8_ones : GoodIn wsX8_both wsX8_ones := goodIn_r _ [14] (by decide +kernel) (by decide +kernel)
set_option maxRecDepth 20000 in
theorem gX8_both_X8_ones : GoodIn wsX8_both (va_wsS RX8 110 yX8_ones wsX8_ones) := goodIn_app (goodIn_of _ (by decide +kernel)) ggX8_both_X8_ones
theorem dX8_both_0 : decode cX8_both 0 = .ok (.iload_n 1, 1) := by decide +kernel
theorem dX8_both_1 : decode cX8_both 1 = .ok (.invokestatic 106, 3) := by decide +kernel
theorem dX8_both_4 : decode cX8_both 4 = .ok (.ifCond .eq 18, 3) := by decide +kernel
theorem dX8_both_7 : decode cX8_both 7 = .ok (.iload_n 3, 1) := by decide +kernel
theorem dX8_both_8 : decode cX8_both 8 = .ok (.invokestatic 106, 3) := by decide +kernel
theorem dX8_both_11 : decode cX8_both 11 = .ok (.ifCond .eq 11, 3) := by decide +kernel
theorem dX8_both_14 : decode cX8_both 14 = .ok (.iload 4, 2) := by decide +kernel
theorem dX8_both_16 : decode cX8_both 16 = .ok (.invokestatic 106, 3) := by decide +kernel
theorem dX8_both_19 : decode cX8_both 19 = .ok (.ifCond .ne 5, 3) := by decide +kernel
theorem dX8_both_22 : decode cX8_both 22 = .ok (.iconst (-1), 1) := by decide +kernel
theorem dX8_both_23 : decode cX8_both 23 = .ok (.ireturn, 1) := by decide +kernel
theorem dX8_both_24 : decode cX8_both 24 = .ok (.iload_n 2, 1) := by decide +kernel
theorem dX8_both_25 : decode cX8_both 25 = .ok (.i2l, 1) := by decide +kernel
theorem dX8_both_26 : decode cX8_both 26 = .ok (.lconst 0, 1) := by decide +kernel
theorem dX8_both_27 : decode cX8_both 27 = .ok (.ldc2_w 73, 3) := by decide +kernel
theorem dX8_both_30 : decode cX8_both 30 = .ok (.invokestatic 75, 3) := by decide +kernel
theorem dX8_both_33 : decode cX8_both 33 = .ok (.ifCond .ne 6, 3) := by decide +kernel
theorem dX8_both_36 : decode cX8_both 36 = .ok (.bipush (-2), 2) := by decide +kernel
theorem dX8_both_38 : decode cX8_both 38 = .ok (.ireturn, 1) := by decide +kernel
theorem dX8_both_39 : decode cX8_both 39 = .ok (.aload_n 0, 1) := by decide +kernel
theorem dX8_both_40 : decode cX8_both 40 = .ok (.getfield 17, 3) := by decide +kernel
theorem dX8_both_43 : decode cX8_both 43 = .ok (.iload_n 3, 1) := by decide +kernel
theorem dX8_both_44 : decode cX8_both 44 = .ok (.laload, 1) := by decide +kernel
theorem dX8_both_45 : decode cX8_both 45 = .ok (.lstore 5, 2) := by decide +kernel
theorem dX8_both_47 : decode cX8_both 47 = .ok (.aload_n 0, 1) := by decide +kernel
theorem dX8_both_48 : decode cX8_both 48 = .ok (.getfield 17, 3) := by decide +kernel
theorem dX8_both_51 : decode cX8_both 51 = .ok (.iload 4, 2) := by decide +kernel
theorem dX8_both_53 : decode cX8_both 53 = .ok (.laload, 1) := by decide +kernel
theorem dX8_both_54 : decode cX8_both 54 = .ok (.lstore 7, 2) := by decide +kernel
theorem dX8_both_56 : decode cX8_both 56 = .ok (.aload_n 0, 1) := by decide +kernel
theorem dX8_both_57 : decode cX8_both 57 = .ok (.getfield 17, 3) := by decide +kernel
theorem dX8_both_60 : decode cX8_both 60 = .ok (.iload_n 1, 1) := by decide +kernel
theorem dX8_both_61 : decode cX8_both 61 = .ok (.iload_n 2, 1) := by decide +kernel
theorem dX8_both_62 : decode cX8_both 62 = .ok (.ifCond .ne 11, 3) := by decide +kernel
theorem dX8_both_65 : decode cX8_both 65 = .ok (.lload 5, 2) := by decide +kernel
theorem dX8_both_67 : decode cX8_both 67 = .ok (.lload 7, 2) := by decide +kernel
theorem dX8_both_69 : decode cX8_both 69 = .ok (.lor, 1) := by decide +kernel
theorem dX8_both_70 : decode cX8_both 70 = .ok (.goto 38, 3) := by decide +kernel
theorem dX8_both_73 : decode cX8_both 73 = .ok (.iload_n 2, 1) := by decide +kernel
theorem dX8_both_74 : decode cX8_both 74 = .ok (.iconst 1, 1) := by decide +kernel
theorem dX8_both_75 : decode cX8_both 75 = .ok (.if_icmp .ne 11, 3) := by decide +kernel
theorem dX8_both_78 : decode cX8_both 78 = .ok (.lload 5, 2) := by decide +kernel
theorem dX8_both_80 : decode cX8_both 80 = .ok (.lload 7, 2) := by decide +kernel
theorem dX8_both_82 : decode cX8_both 82 = .ok (.land, 1) := by decide +kernel
theorem dX8_both_83 : decode cX8_both 83 = .ok (.goto 25, 3) := by decide +kernel
theorem dX8_both_86 : decode cX8_both 86 = .ok (.iload_n 2, 1) := by decide +kernel
theorem dX8_both_87 : decode cX8_both 87 = .ok (.iconst 2, 1) := by decide +kernel
theorem dX8_both_88 : decode cX8_both 88 = .ok (.if_icmp .ne 15, 3) := by decide +kernel
theorem dX8_both_91 : decode cX8_both 91 = .ok (.lload 5, 2) := by decide +kernel
theorem dX8_both_93 : decode cX8_both 93 = .ok (.lload 7, 2) := by decide +kernel
theorem dX8_both_95 : decode cX8_both 95 = .ok (.ldc2_w 118, 3) := by decide +kernel
theorem dX8_both_98 : decode cX8_both 98 = .ok (.lxor, 1) := by decide +kernel
theorem dX8_both_99 : decode cX8_both 99 = .ok (.land, 1) := by decide +kernel
theorem dX8_both_100 : decode cX8_both 100 = .ok (.goto 8, 3) := by decide +kernel
theorem dX8_both_103 : decode cX8_both 103 = .ok (.lload 5, 2) := by decide +kernel
theorem dX8_both_105 : decode cX8_both 105 = .ok (.lload 7, 2) := by decide +kernel
theorem dX8_both_107 : decode cX8_both 107 = .ok (.lxor, 1) := by decide +kernel
theorem dX8_both_108 : decode cX8_both 108 = .ok (.lastore, 1) := by decide +kernel
theorem dX8_both_109 : decode cX8_both 109 = .ok (.aload_n 0, 1) := by decide +kernel
theorem dX8_both_110 : decode cX8_both 110 = .ok (.getfield 17, 3) := by decide +kernel
theorem dX8_both_113 : decode cX8_both 113 = .ok (.iload_n 1, 1) := by decide +kernel
theorem dX8_both_114 : decode cX8_both 114 = .ok (.laload, 1) := by decide +kernel
theorem dX8_both_115 : decode cX8_both 115 = .ok (.invokestatic 110, 3) := by decide +kernel
theorem dX8_both_118 : decode cX8_both 118 = .ok (.ireturn, 1) := by decide +kernel
set_option maxRecDepth 20000 in
theorem ggX8_isLine_X8_in : GoodIn wsX8_isLine wsX8_in := goodIn_r _ [8] (by decide +kernel) (by decide +kernel)
set_option maxRecDepth 20000 in
theorem gX8_isLine_X8_in : GoodIn wsX8_isLine (va_wsS RX8 75 yX8_in wsX8_in) := goodIn_app (goodIn_of _ (by decide +kernel)) ggX8_isLine_X8_in
theorem dX8_isLine_0 : decode cX8_isLine 0 = .ok (.iload_n 0, 1) := by decide +kernel
theorem dX8_isLine_1 : decode cX8_isLine 1 = .ok (.i2l, 1) := by decide +kernel
theorem dX8_isLine_2 : decode cX8_isLine 2 = .ok (.lconst 0, 1) := by decide +kernel
theorem dX8_isLine_3 : decode cX8_isLine 3 = .ok (.ldc2_w 73, 3) := by decide +kernel
theorem dX8_isLine_6 : decode cX8_isLine 6 = .ok (.invokestatic 75, 3) := by decide +kernel
theorem dX8_isLine_9 : decode cX8_isLine 9 = .ok (.ifCond .eq 61, 3) := by decide +kernel
theorem dX8_isLine_12 : decode cX8_isLine 12 = .ok (.iload_n 0, 1) := by decide +kernel
theorem dX8_isLine_13 : decode cX8_isLine 13 = .ok (.iconst 2, 1) := by decide +kernel
theorem dX8_isLine_14 : decode cX8_isLine 14 = .ok (.if_icmp .ge 18, 3) := by decide +kernel
theorem dX8_isLine_17 : decode cX8_isLine 17 = .ok (.iload_n 1, 1) := by decide +kernel
theorem dX8_isLine_18 : decode cX8_isLine 18 = .ok (.i2l, 1) := by decide +kernel
theorem dX8_isLine_19 : decode cX8_isLine 19 = .ok (.lconst 0, 1) := by decide +kernel
theorem dX8_isLine_20 : decode cX8_isLine 20 = .ok (.ldc2_w 185, 3) := by decide +kernel
theorem dX8_isLine_23 : decode cX8_isLine 23 = .ok (.invokestatic 75, 3) := by decide +kernel
theorem dX8_isLine_26 : decode cX8_isLine 26 = .ok (.ifCond .eq 44, 3) := by decide +kernel
theorem dX8_isLine_29 : decode cX8_isLine 29 = .ok (.goto 37, 3) := by decide +kernel
theorem dX8_isLine_32 : decode cX8_isLine 32 = .ok (.iload_n 0, 1) := by decide +kernel
theorem dX8_isLine_33 : decode cX8_isLine 33 = .ok (.iconst 2, 1) := by decide +kernel
theorem dX8_isLine_34 : decode cX8_isLine 34 = .ok (.if_icmp .ne 20, 3) := by decide +kernel
theorem dX8_isLine_37 : decode cX8_isLine 37 = .ok (.iload_n 1, 1) := by decide +kernel
theorem dX8_isLine_38 : decode cX8_isLine 38 = .ok (.i2l, 1) := by decide +kernel
theorem dX8_isLine_39 : decode cX8_isLine 39 = .ok (.ldc2_w 187, 3) := by decide +kernel
theorem dX8_isLine_42 : decode cX8_isLine 42 = .ok (.ldc2_w 185, 3) := by decide +kernel
theorem dX8_isLine_45 : decode cX8_isLine 45 = .ok (.invokestatic 75, 3) := by decide +kernel
theorem dX8_isLine_48 : decode cX8_isLine 48 = .ok (.ifCond .eq 22, 3) := by decide +kernel
theorem dX8_isLine_51 : decode cX8_isLine 51 = .ok (.goto 15, 3) := by decide +kernel
theorem dX8_isLine_54 : decode cX8_isLine 54 = .ok (.iload_n 1, 1) := by decide +kernel
theorem dX8_isLine_55 : decode cX8_isLine 55 = .ok (.i2l, 1) := by decide +kernel
theorem dX8_isLine_56 : decode cX8_isLine 56 = .ok (.lconst 0, 1) := by decide +kernel
theorem dX8_isLine_57 : decode cX8_isLine 57 = .ok (.ldc2_w 83, 3) := by decide +kernel
theorem dX8_isLine_60 : decode cX8_isLine 60 = .ok (.invokestatic 75, 3) := by decide +kernel
theorem dX8_isLine_63 : decode cX8_isLine 63 = .ok (.ifCond .eq 7, 3) := by decide +kernel
theorem dX8_isLine_66 : decode cX8_isLine 66 = .ok (.iconst 1, 1) := by decide +kernel
theorem dX8_isLine_67 : decode cX8_isLine 67 = .ok (.goto 4, 3) := by decide +kernel
theorem dX8_isLine_70 : decode cX8_isLine 70 = .ok (.iconst 0, 1) := by decide +kernel
theorem dX8_isLine_71 : decode cX8_isLine 71 = .ok (.ireturn, 1) := by decide +kernel
theorem dX8_aheadOf_0 : decode cX8_aheadOf 0 = .ok (.lconst 0, 1) := by decide +kernel
theorem dX8_aheadOf_1 : decode cX8_aheadOf 1 = .ok (.lstore_n 2, 1) := by decide +kernel
theorem dX8_aheadOf_2 : decode cX8_aheadOf 2 = .ok (.iconst 0, 1) := by decide +kernel
theorem dX8_aheadOf_3 : decode cX8_aheadOf 3 = .ok (.istore 4, 2) := by decide +kernel
theorem dX8_aheadOf_5 : decode cX8_aheadOf 5 = .ok (.iload 4, 2) := by decide +kernel
theorem dX8_aheadOf_7 : decode cX8_aheadOf 7 = .ok (.bipush 64, 2) := by decide +kernel
theorem dX8_aheadOf_9 : decode cX8_aheadOf 9 = .ok (.if_icmp .ge 138, 3) := by decide +kernel
theorem dX8_aheadOf_12 : decode cX8_aheadOf 12 = .ok (.iload 4, 2) := by decide +kernel
theorem dX8_aheadOf_14 : decode cX8_aheadOf 14 = .ok (.iconst 4, 1) := by decide +kernel
theorem dX8_aheadOf_15 : decode cX8_aheadOf 15 = .ok (.irem, 1) := by decide +kernel
theorem dX8_aheadOf_16 : decode cX8_aheadOf 16 = .ok (.istore 5, 2) := by decide +kernel
theorem dX8_aheadOf_18 : decode cX8_aheadOf 18 = .ok (.bipush 6, 2) := by decide +kernel
theorem dX8_aheadOf_20 : decode cX8_aheadOf 20 = .ok (.iload 4, 2) := by decide +kernel
theorem dX8_aheadOf_22 : decode cX8_aheadOf 22 = .ok (.bipush 16, 2) := by decide +kernel
theorem dX8_aheadOf_24 : decode cX8_aheadOf 24 = .ok (.idiv, 1) := by decide +kernel
theorem dX8_aheadOf_25 : decode cX8_aheadOf 25 = .ok (.imul, 1) := by decide +kernel
theorem dX8_aheadOf_26 : decode cX8_aheadOf 26 = .ok (.iload 5, 2) := by decide +kernel
theorem dX8_aheadOf_28 : decode cX8_aheadOf 28 = .ok (.ifCond .ne 7, 3) := by decide +kernel
theorem dX8_aheadOf_31 : decode cX8_aheadOf 31 = .ok (.iconst 1, 1) := by decide +kernel
theorem dX8_aheadOf_32 : decode cX8_aheadOf 32 = .ok (.goto 14, 3) := by decide +kernel
theorem dX8_aheadOf_35 : decode cX8_aheadOf 35 = .ok (.iload 5, 2) := by decide +kernel
theorem dX8_aheadOf_37 : decode cX8_aheadOf 37 = .ok (.iconst 2, 1) := by decide +kernel
theorem dX8_aheadOf_38 : decode cX8_aheadOf 38 = .ok (.if_icmp .ne 7, 3) := by decide +kernel
theorem dX8_aheadOf_41 : decode cX8_aheadOf 41 = .ok (.iconst 5, 1) := by decide +kernel
theorem dX8_aheadOf_42 : decode cX8_aheadOf 42 = .ok (.goto 4, 3) := by decide +kernel
theorem dX8_aheadOf_45 : decode cX8_aheadOf 45 = .ok (.iconst 3, 1) := by decide +kernel
theorem dX8_aheadOf_46 : decode cX8_aheadOf 46 = .ok (.iadd, 1) := by decide +kernel
theorem dX8_aheadOf_47 : decode cX8_aheadOf 47 = .ok (.istore 6, 2) := by decide +kernel
theorem dX8_aheadOf_49 : decode cX8_aheadOf 49 = .ok (.bipush 6, 2) := by decide +kernel
theorem dX8_aheadOf_51 : decode cX8_aheadOf 51 = .ok (.iload 4, 2) := by decide +kernel
theorem dX8_aheadOf_53 : decode cX8_aheadOf 53 = .ok (.iconst 4, 1) := by decide +kernel
theorem dX8_aheadOf_54 : decode cX8_aheadOf 54 = .ok (.idiv, 1) := by decide +kernel
theorem dX8_aheadOf_55 : decode cX8_aheadOf 55 = .ok (.iconst 4, 1) := by decide +kernel
theorem dX8_aheadOf_56 : decode cX8_aheadOf 56 = .ok (.irem, 1) := by decide +kernel
theorem dX8_aheadOf_57 : decode cX8_aheadOf 57 = .ok (.imul, 1) := by decide +kernel
theorem dX8_aheadOf_58 : decode cX8_aheadOf 58 = .ok (.iload 5, 2) := by decide +kernel
theorem dX8_aheadOf_60 : decode cX8_aheadOf 60 = .ok (.iconst 3, 1) := by decide +kernel
theorem dX8_aheadOf_61 : decode cX8_aheadOf 61 = .ok (.if_icmp .ne 7, 3) := by decide +kernel
theorem dX8_aheadOf_64 : decode cX8_aheadOf 64 = .ok (.iconst 1, 1) := by decide +kernel
theorem dX8_aheadOf_65 : decode cX8_aheadOf 65 = .ok (.goto 14, 3) := by decide +kernel
theorem dX8_aheadOf_68 : decode cX8_aheadOf 68 = .ok (.iload 5, 2) := by decide +kernel
theorem dX8_aheadOf_70 : decode cX8_aheadOf 70 = .ok (.iconst 1, 1) := by decide +kernel
theorem dX8_aheadOf_71 : decode cX8_aheadOf 71 = .ok (.if_icmp .ne 7, 3) := by decide +kernel
theorem dX8_aheadOf_74 : decode cX8_aheadOf 74 = .ok (.iconst 5, 1) := by decide +kernel
theorem dX8_aheadOf_75 : decode cX8_aheadOf 75 = .ok (.goto 4, 3) := by decide +kernel
theorem dX8_aheadOf_78 : decode cX8_aheadOf 78 = .ok (.iconst 3, 1) := by decide +kernel
theorem dX8_aheadOf_79 : decode cX8_aheadOf 79 = .ok (.iadd, 1) := by decide +kernel
theorem dX8_aheadOf_80 : decode cX8_aheadOf 80 = .ok (.istore 7, 2) := by decide +kernel
theorem dX8_aheadOf_82 : decode cX8_aheadOf 82 = .ok (.iload_n 0, 1) := by decide +kernel
theorem dX8_aheadOf_83 : decode cX8_aheadOf 83 = .ok (.ifCond .ne 8, 3) := by decide +kernel
theorem dX8_aheadOf_86 : decode cX8_aheadOf 86 = .ok (.iload 6, 2) := by decide +kernel
theorem dX8_aheadOf_88 : decode cX8_aheadOf 88 = .ok (.goto 31, 3) := by decide +kernel
theorem dX8_aheadOf_91 : decode cX8_aheadOf 91 = .ok (.iload_n 0, 1) := by decide +kernel
theorem dX8_aheadOf_92 : decode cX8_aheadOf 92 = .ok (.iconst 1, 1) := by decide +kernel
theorem dX8_aheadOf_93 : decode cX8_aheadOf 93 = .ok (.if_icmp .ne 8, 3) := by decide +kernel
theorem dX8_aheadOf_96 : decode cX8_aheadOf 96 = .ok (.iload 7, 2) := by decide +kernel
theorem dX8_aheadOf_98 : decode cX8_aheadOf 98 = .ok (.goto 21, 3) := by decide +kernel
theorem dX8_aheadOf_101 : decode cX8_aheadOf 101 = .ok (.iload_n 0, 1) := by decide +kernel
theorem dX8_aheadOf_102 : decode cX8_aheadOf 102 = .ok (.iconst 2, 1) := by decide +kernel
theorem dX8_aheadOf_103 : decode cX8_aheadOf 103 = .ok (.if_icmp .ne 11, 3) := by decide +kernel
theorem dX8_aheadOf_106 : decode cX8_aheadOf 106 = .ok (.iload 7, 2) := by decide +kernel
theorem dX8_aheadOf_108 : decode cX8_aheadOf 108 = .ok (.iload 6, 2) := by decide +kernel
theorem dX8_aheadOf_110 : decode cX8_aheadOf 110 = .ok (.isub, 1) := by decide +kernel
theorem dX8_aheadOf_111 : decode cX8_aheadOf 111 = .ok (.goto 8, 3) := by decide +kernel
theorem dX8_aheadOf_114 : decode cX8_aheadOf 114 = .ok (.iload 7, 2) := by decide +kernel
theorem dX8_aheadOf_116 : decode cX8_aheadOf 116 = .ok (.iload 6, 2) := by decide +kernel
theorem dX8_aheadOf_118 : decode cX8_aheadOf 118 = .ok (.iadd, 1) := by decide +kernel
theorem dX8_aheadOf_119 : decode cX8_aheadOf 119 = .ok (.istore 8, 2) := by decide +kernel
theorem dX8_aheadOf_121 : decode cX8_aheadOf 121 = .ok (.lload_n 2, 1) := by decide +kernel
theorem dX8_aheadOf_122 : decode cX8_aheadOf 122 = .ok (.iload 8, 2) := by decide +kernel
theorem dX8_aheadOf_124 : decode cX8_aheadOf 124 = .ok (.bipush 6, 2) := by decide +kernel
theorem dX8_aheadOf_126 : decode cX8_aheadOf 126 = .ok (.iload_n 1, 1) := by decide +kernel
theorem dX8_aheadOf_127 : decode cX8_aheadOf 127 = .ok (.imul, 1) := by decide +kernel
theorem dX8_aheadOf_128 : decode cX8_aheadOf 128 = .ok (.if_icmp .ge 10, 3) := by decide +kernel
theorem dX8_aheadOf_131 : decode cX8_aheadOf 131 = .ok (.lconst 1, 1) := by decide +kernel
theorem dX8_aheadOf_132 : decode cX8_aheadOf 132 = .ok (.iload 4, 2) := by decide +kernel
theorem dX8_aheadOf_134 : decode cX8_aheadOf 134 = .ok (.lshl, 1) := by decide +kernel
theorem dX8_aheadOf_135 : decode cX8_aheadOf 135 = .ok (.goto 4, 3) := by decide +kernel
theorem dX8_aheadOf_138 : decode cX8_aheadOf 138 = .ok (.lconst 0, 1) := by decide +kernel
theorem dX8_aheadOf_139 : decode cX8_aheadOf 139 = .ok (.lor, 1) := by decide +kernel
theorem dX8_aheadOf_140 : decode cX8_aheadOf 140 = .ok (.lstore_n 2, 1) := by decide +kernel
theorem dX8_aheadOf_141 : decode cX8_aheadOf 141 = .ok (.iinc 4 1, 3) := by decide +kernel
theorem dX8_aheadOf_144 : decode cX8_aheadOf 144 = .ok (.goto (-139), 3) := by decide +kernel
theorem dX8_aheadOf_147 : decode cX8_aheadOf 147 = .ok (.lload_n 2, 1) := by decide +kernel
theorem dX8_aheadOf_148 : decode cX8_aheadOf 148 = .ok (.lreturn, 1) := by decide +kernel
set_option maxRecDepth 20000 in
theorem ggX8_ahead_X8_isFigure : GoodIn wsX8_ahead wsX8_isFigure := goodIn_r _ [5, 6, 7, 8, 4, 9] (by decide +kernel) (by decide +kernel)
set_option maxRecDepth 20000 in
theorem gX8_ahead_X8_isFigure : GoodIn wsX8_ahead (va_wsS RX8 106 yX8_isFigure wsX8_isFigure) := goodIn_app (goodIn_of _ (by decide +kernel)) ggX8_ahead_X8_isFigure
set_option maxRecDepth 20000 in
theorem ggX8_ahead_X8_isLine : GoodIn wsX8_ahead wsX8_isLine := goodIn_r _ [12, 13, 14, 15, 16, 7, 8, 4, 9] (by decide +kernel) (by decide +kernel)
set_option maxRecDepth 20000 in
theorem gX8_ahead_X8_isLine : GoodIn wsX8_ahead (va_wsS RX8 189 yX8_isLine wsX8_isLine) := goodIn_app (goodIn_of _ (by decide +kernel)) ggX8_ahead_X8_isLine
set_option maxRecDepth 20000 in
theorem ggX8_ahead_X8_aheadOf : GoodIn wsX8_ahead wsX8_aheadOf := goodIn_r _ [19] (by decide +kernel) (by decide +kernel)
set_option maxRecDepth 20000 in
theorem gX8_ahead_X8_aheadOf : GoodIn wsX8_ahead (va_wsS RX8 193 yX8_aheadOf wsX8_aheadOf) := goodIn_app (goodIn_of _ (by decide +kernel)) ggX8_ahead_X8_aheadOf
set_option maxRecDepth 20000 in
theorem ggX8_ahead_X8_ones : GoodIn wsX8_ahead wsX8_ones := goodIn_r _ [22] (by decide +kernel) (by decide +kernel)
set_option maxRecDepth 20000 in
theorem gX8_ahead_X8_ones : GoodIn wsX8_ahead (va_wsS RX8 110 yX8_ones wsX8_ones) := goodIn_app (goodIn_of _ (by decide +kernel)) ggX8_ahead_X8_ones
theorem dX8_ahead_0 : decode cX8_ahead 0 = .ok (.iload_n 1, 1) := by decide +kernel
theorem dX8_ahead_1 : decode cX8_ahead 1 = .ok (.invokestatic 106, 3) := by decide +kernel
theorem dX8_ahead_4 : decode cX8_ahead 4 = .ok (.ifCond .ne 5, 3) := by decide +kernel
theorem dX8_ahead_7 : decode cX8_ahead 7 = .ok (.iconst (-1), 1) := by decide +kernel
theorem dX8_ahead_8 : decode cX8_ahead 8 = .ok (.ireturn, 1) := by decide +kernel
theorem dX8_ahead_9 : decode cX8_ahead 9 = .ok (.iload_n 2, 1) := by decide +kernel
theorem dX8_ahead_10 : decode cX8_ahead 10 = .ok (.iload_n 3, 1) := by decide +kernel
theorem dX8_ahead_11 : decode cX8_ahead 11 = .ok (.invokestatic 189, 3) := by decide +kernel
theorem dX8_ahead_14 : decode cX8_ahead 14 = .ok (.ifCond .eq 21, 3) := by decide +kernel
theorem dX8_ahead_17 : decode cX8_ahead 17 = .ok (.aload_n 0, 1) := by decide +kernel
theorem dX8_ahead_18 : decode cX8_ahead 18 = .ok (.getfield 17, 3) := by decide +kernel
theorem dX8_ahead_21 : decode cX8_ahead 21 = .ok (.iload_n 1, 1) := by decide +kernel
theorem dX8_ahead_22 : decode cX8_ahead 22 = .ok (.laload, 1) := by decide +kernel
theorem dX8_ahead_23 : decode cX8_ahead 23 = .ok (.iload_n 2, 1) := by decide +kernel
theorem dX8_ahead_24 : decode cX8_ahead 24 = .ok (.iload_n 3, 1) := by decide +kernel
theorem dX8_ahead_25 : decode cX8_ahead 25 = .ok (.invokestatic 193, 3) := by decide +kernel
theorem dX8_ahead_28 : decode cX8_ahead 28 = .ok (.land, 1) := by decide +kernel
theorem dX8_ahead_29 : decode cX8_ahead 29 = .ok (.invokestatic 110, 3) := by decide +kernel
theorem dX8_ahead_32 : decode cX8_ahead 32 = .ok (.goto 5, 3) := by decide +kernel
theorem dX8_ahead_35 : decode cX8_ahead 35 = .ok (.bipush (-2), 2) := by decide +kernel
theorem dX8_ahead_37 : decode cX8_ahead 37 = .ok (.ireturn, 1) := by decide +kernel
set_option maxRecDepth 20000 in
theorem ggX8_cut_X8_isFigure : GoodIn wsX8_cut wsX8_isFigure := goodIn_r _ [6, 7, 8, 9, 5, 10] (by decide +kernel) (by decide +kernel)
set_option maxRecDepth 20000 in
theorem gX8_cut_X8_isFigure : GoodIn wsX8_cut (va_wsS RX8 106 yX8_isFigure wsX8_isFigure) := goodIn_app (goodIn_of _ (by decide +kernel)) ggX8_cut_X8_isFigure
set_option maxRecDepth 20000 in
theorem ggX8_cut_X8_isLine : GoodIn wsX8_cut wsX8_isLine := goodIn_r _ [13, 14, 15, 16, 17, 8, 9, 5, 10] (by decide +kernel) (by decide +kernel)
set_option maxRecDepth 20000 in
theorem gX8_cut_X8_isLine : GoodIn wsX8_cut (va_wsS RX8 189 yX8_isLine wsX8_isLine) := goodIn_app (goodIn_of _ (by decide +kernel)) ggX8_cut_X8_isLine
set_option maxRecDepth 20000 in
theorem ggX8_cut_X8_aheadOf : GoodIn wsX8_cut wsX8_aheadOf := goodIn_r _ [20] (by decide +kernel) (by decide +kernel)
set_option maxRecDepth 20000 in
theorem gX8_cut_X8_aheadOf : GoodIn wsX8_cut (va_wsS RX8 193 yX8_aheadOf wsX8_aheadOf) := goodIn_app (goodIn_of _ (by decide +kernel)) ggX8_cut_X8_aheadOf
set_option maxRecDepth 20000 in
theorem ggX8_cut_X8_partsOf : GoodIn wsX8_cut wsX8_partsOf := goodIn_r _ [24, 25, 26, 27, 5, 28, 2, 29, 30, 31, 32, 33, 34, 35, 36, 37, 38, 39, 40, 41, 42, 43, 44, 45, 46, 47, 48, 49, 50, 51, 52, 53, 54, 55, 56, 57, 58, 59] (by decide +kernel) (by decide +kernel)
set_option maxRecDepth 20000 in
theorem gX8_cut_X8_partsOf : GoodIn wsX8_cut (wsV RX8 131 RX8 yX8_partsOf wsX8_partsOf) := goodIn_app (goodIn_of _ (by decide +kernel)) ggX8_cut_X8_partsOf
theorem dX8_cut_0 : decode cX8_cut 0 = .ok (.iload_n 1, 1) := by decide +kernel
theorem dX8_cut_1 : decode cX8_cut 1 = .ok (.invokestatic 106, 3) := by decide +kernel
theorem dX8_cut_4 : decode cX8_cut 4 = .ok (.ifCond .ne 5, 3) := by decide +kernel
theorem dX8_cut_7 : decode cX8_cut 7 = .ok (.iconst (-1), 1) := by decide +kernel
theorem dX8_cut_8 : decode cX8_cut 8 = .ok (.ireturn, 1) := by decide +kernel
theorem dX8_cut_9 : decode cX8_cut 9 = .ok (.iload_n 2, 1) := by decide +kernel
theorem dX8_cut_10 : decode cX8_cut 10 = .ok (.iload_n 3, 1) := by decide +kernel
theorem dX8_cut_11 : decode cX8_cut 11 = .ok (.invokestatic 189, 3) := by decide +kernel
theorem dX8_cut_14 : decode cX8_cut 14 = .ok (.ifCond .ne 6, 3) := by decide +kernel
theorem dX8_cut_17 : decode cX8_cut 17 = .ok (.bipush (-2), 2) := by decide +kernel
theorem dX8_cut_19 : decode cX8_cut 19 = .ok (.ireturn, 1) := by decide +kernel
theorem dX8_cut_20 : decode cX8_cut 20 = .ok (.iload_n 2, 1) := by decide +kernel
theorem dX8_cut_21 : decode cX8_cut 21 = .ok (.iload_n 3, 1) := by decide +kernel
theorem dX8_cut_22 : decode cX8_cut 22 = .ok (.invokestatic 193, 3) := by decide +kernel
theorem dX8_cut_25 : decode cX8_cut 25 = .ok (.lstore 4, 2) := by decide +kernel
theorem dX8_cut_27 : decode cX8_cut 27 = .ok (.aload_n 0, 1) := by decide +kernel
theorem dX8_cut_28 : decode cX8_cut 28 = .ok (.aload_n 0, 1) := by decide +kernel
theorem dX8_cut_29 : decode cX8_cut 29 = .ok (.getfield 17, 3) := by decide +kernel
theorem dX8_cut_32 : decode cX8_cut 32 = .ok (.iload_n 1, 1) := by decide +kernel
theorem dX8_cut_33 : decode cX8_cut 33 = .ok (.laload, 1) := by decide +kernel
theorem dX8_cut_34 : decode cX8_cut 34 = .ok (.lload 4, 2) := by decide +kernel
theorem dX8_cut_36 : decode cX8_cut 36 = .ok (.land, 1) := by decide +kernel
theorem dX8_cut_37 : decode cX8_cut 37 = .ok (.invokevirtual 131, 3) := by decide +kernel
theorem dX8_cut_40 : decode cX8_cut 40 = .ok (.aload_n 0, 1) := by decide +kernel
theorem dX8_cut_41 : decode cX8_cut 41 = .ok (.aload_n 0, 1) := by decide +kernel
theorem dX8_cut_42 : decode cX8_cut 42 = .ok (.getfield 17, 3) := by decide +kernel
theorem dX8_cut_45 : decode cX8_cut 45 = .ok (.iload_n 1, 1) := by decide +kernel
theorem dX8_cut_46 : decode cX8_cut 46 = .ok (.laload, 1) := by decide +kernel
theorem dX8_cut_47 : decode cX8_cut 47 = .ok (.lload 4, 2) := by decide +kernel
theorem dX8_cut_49 : decode cX8_cut 49 = .ok (.ldc2_w 118, 3) := by decide +kernel
theorem dX8_cut_52 : decode cX8_cut 52 = .ok (.lxor, 1) := by decide +kernel
theorem dX8_cut_53 : decode cX8_cut 53 = .ok (.land, 1) := by decide +kernel
theorem dX8_cut_54 : decode cX8_cut 54 = .ok (.invokevirtual 131, 3) := by decide +kernel
theorem dX8_cut_57 : decode cX8_cut 57 = .ok (.iadd, 1) := by decide +kernel
theorem dX8_cut_58 : decode cX8_cut 58 = .ok (.ireturn, 1) := by decide +kernel
set_option maxRecDepth 20000 in
theorem ggX8_halves_X8_isFigure : GoodIn wsX8_halves wsX8_isFigure := goodIn_r _ [5, 6, 7, 8, 4, 9] (by decide +kernel) (by decide +kernel)
set_option maxRecDepth 20000 in
theorem gX8_halves_X8_isFigure : GoodIn wsX8_halves (va_wsS RX8 106 yX8_isFigure wsX8_isFigure) := goodIn_app (goodIn_of _ (by decide +kernel)) ggX8_halves_X8_isFigure
set_option maxRecDepth 20000 in
theorem ggX8_halves_X8_isLine : GoodIn wsX8_halves wsX8_isLine := goodIn_r _ [12, 13, 14, 15, 16, 7, 8, 4, 9] (by decide +kernel) (by decide +kernel)
set_option maxRecDepth 20000 in
theorem gX8_halves_X8_isLine : GoodIn wsX8_halves (va_wsS RX8 189 yX8_isLine wsX8_isLine) := goodIn_app (goodIn_of _ (by decide +kernel)) ggX8_halves_X8_isLine
set_option maxRecDepth 20000 in
theorem ggX8_halves_X8_aheadOf : GoodIn wsX8_halves wsX8_aheadOf := goodIn_r _ [19] (by decide +kernel) (by decide +kernel)
set_option maxRecDepth 20000 in
theorem gX8_halves_X8_aheadOf : GoodIn wsX8_halves (va_wsS RX8 193 yX8_aheadOf wsX8_aheadOf) := goodIn_app (goodIn_of _ (by decide +kernel)) ggX8_halves_X8_aheadOf
set_option maxRecDepth 20000 in
theorem ggX8_halves_X8_ones : GoodIn wsX8_halves wsX8_ones := goodIn_r _ [22] (by decide +kernel) (by decide +kernel)
set_option maxRecDepth 20000 in
theorem gX8_halves_X8_ones : GoodIn wsX8_halves (va_wsS RX8 110 yX8_ones wsX8_ones) := goodIn_app (goodIn_of _ (by decide +kernel)) ggX8_halves_X8_ones
theorem dX8_halves_0 : decode cX8_halves 0 = .ok (.iload_n 1, 1) := by decide +kernel
theorem dX8_halves_1 : decode cX8_halves 1 = .ok (.invokestatic 106, 3) := by decide +kernel
theorem dX8_halves_4 : decode cX8_halves 4 = .ok (.ifCond .ne 5, 3) := by decide +kernel
theorem dX8_halves_7 : decode cX8_halves 7 = .ok (.iconst (-1), 1) := by decide +kernel
theorem dX8_halves_8 : decode cX8_halves 8 = .ok (.ireturn, 1) := by decide +kernel
theorem dX8_halves_9 : decode cX8_halves 9 = .ok (.iconst 0, 1) := by decide +kernel
theorem dX8_halves_10 : decode cX8_halves 10 = .ok (.istore_n 2, 1) := by decide +kernel
theorem dX8_halves_11 : decode cX8_halves 11 = .ok (.iconst 0, 1) := by decide +kernel
theorem dX8_halves_12 : decode cX8_halves 12 = .ok (.istore_n 3, 1) := by decide +kernel
theorem dX8_halves_13 : decode cX8_halves 13 = .ok (.iload_n 3, 1) := by decide +kernel
theorem dX8_halves_14 : decode cX8_halves 14 = .ok (.iconst 4, 1) := by decide +kernel
theorem dX8_halves_15 : decode cX8_halves 15 = .ok (.if_icmp .ge 84, 3) := by decide +kernel
theorem dX8_halves_18 : decode cX8_halves 18 = .ok (.aload_n 0, 1) := by decide +kernel
theorem dX8_halves_19 : decode cX8_halves 19 = .ok (.getfield 17, 3) := by decide +kernel
theorem dX8_halves_22 : decode cX8_halves 22 = .ok (.iload_n 1, 1) := by decide +kernel
theorem dX8_halves_23 : decode cX8_halves 23 = .ok (.laload, 1) := by decide +kernel
theorem dX8_halves_24 : decode cX8_halves 24 = .ok (.lconst 0, 1) := by decide +kernel
theorem dX8_halves_25 : decode cX8_halves 25 = .ok (.lcmp, 1) := by decide +kernel
theorem dX8_halves_26 : decode cX8_halves 26 = .ok (.ifCond .eq 73, 3) := by decide +kernel
theorem dX8_halves_29 : decode cX8_halves 29 = .ok (.bipush (-4), 2) := by decide +kernel
theorem dX8_halves_31 : decode cX8_halves 31 = .ok (.istore 4, 2) := by decide +kernel
theorem dX8_halves_33 : decode cX8_halves 33 = .ok (.iload 4, 2) := by decide +kernel
theorem dX8_halves_35 : decode cX8_halves 35 = .ok (.bipush 9, 2) := by decide +kernel
theorem dX8_halves_37 : decode cX8_halves 37 = .ok (.if_icmp .ge 56, 3) := by decide +kernel
theorem dX8_halves_40 : decode cX8_halves 40 = .ok (.iload_n 2, 1) := by decide +kernel
theorem dX8_halves_41 : decode cX8_halves 41 = .ok (.iload_n 3, 1) := by decide +kernel
theorem dX8_halves_42 : decode cX8_halves 42 = .ok (.iload 4, 2) := by decide +kernel
theorem dX8_halves_44 : decode cX8_halves 44 = .ok (.invokestatic 189, 3) := by decide +kernel
theorem dX8_halves_47 : decode cX8_halves 47 = .ok (.ifCond .eq 37, 3) := by decide +kernel
theorem dX8_halves_50 : decode cX8_halves 50 = .ok (.iconst 2, 1) := by decide +kernel
theorem dX8_halves_51 : decode cX8_halves 51 = .ok (.aload_n 0, 1) := by decide +kernel
theorem dX8_halves_52 : decode cX8_halves 52 = .ok (.getfield 17, 3) := by decide +kernel
theorem dX8_halves_55 : decode cX8_halves 55 = .ok (.iload_n 1, 1) := by decide +kernel
theorem dX8_halves_56 : decode cX8_halves 56 = .ok (.laload, 1) := by decide +kernel
theorem dX8_halves_57 : decode cX8_halves 57 = .ok (.iload_n 3, 1) := by decide +kernel
theorem dX8_halves_58 : decode cX8_halves 58 = .ok (.iload 4, 2) := by decide +kernel
theorem dX8_halves_60 : decode cX8_halves 60 = .ok (.invokestatic 193, 3) := by decide +kernel
theorem dX8_halves_63 : decode cX8_halves 63 = .ok (.land, 1) := by decide +kernel
theorem dX8_halves_64 : decode cX8_halves 64 = .ok (.invokestatic 110, 3) := by decide +kernel
theorem dX8_halves_67 : decode cX8_halves 67 = .ok (.imul, 1) := by decide +kernel
theorem dX8_halves_68 : decode cX8_halves 68 = .ok (.aload_n 0, 1) := by decide +kernel
theorem dX8_halves_69 : decode cX8_halves 69 = .ok (.getfield 17, 3) := by decide +kernel
theorem dX8_halves_72 : decode cX8_halves 72 = .ok (.iload_n 1, 1) := by decide +kernel
theorem dX8_halves_73 : decode cX8_halves 73 = .ok (.laload, 1) := by decide +kernel
theorem dX8_halves_74 : decode cX8_halves 74 = .ok (.invokestatic 110, 3) := by decide +kernel
theorem dX8_halves_77 : decode cX8_halves 77 = .ok (.if_icmp .ne 7, 3) := by decide +kernel
theorem dX8_halves_80 : decode cX8_halves 80 = .ok (.iconst 1, 1) := by decide +kernel
theorem dX8_halves_81 : decode cX8_halves 81 = .ok (.goto 4, 3) := by decide +kernel
theorem dX8_halves_84 : decode cX8_halves 84 = .ok (.iconst 0, 1) := by decide +kernel
theorem dX8_halves_85 : decode cX8_halves 85 = .ok (.iadd, 1) := by decide +kernel
theorem dX8_halves_86 : decode cX8_halves 86 = .ok (.istore_n 2, 1) := by decide +kernel
theorem dX8_halves_87 : decode cX8_halves 87 = .ok (.iinc 4 1, 3) := by decide +kernel
theorem dX8_halves_90 : decode cX8_halves 90 = .ok (.goto (-57), 3) := by decide +kernel
theorem dX8_halves_93 : decode cX8_halves 93 = .ok (.iinc 3 1, 3) := by decide +kernel
theorem dX8_halves_96 : decode cX8_halves 96 = .ok (.goto (-83), 3) := by decide +kernel
theorem dX8_halves_99 : decode cX8_halves 99 = .ok (.iload_n 2, 1) := by decide +kernel
theorem dX8_halves_100 : decode cX8_halves 100 = .ok (.ireturn, 1) := by decide +kernel
set_option maxRecDepth 20000 in
theorem ggX8_split_X8_isFigure : GoodIn wsX8_split wsX8_isFigure := goodIn_r _ [6, 7, 8, 9, 5, 10] (by decide +kernel) (by decide +kernel)
set_option maxRecDepth 20000 in
theorem gX8_split_X8_isFigure : GoodIn wsX8_split (va_wsS RX8 106 yX8_isFigure wsX8_isFigure) := goodIn_app (goodIn_of _ (by decide +kernel)) ggX8_split_X8_isFigure
set_option maxRecDepth 20000 in
theorem ggX8_split_X8_isLine : GoodIn wsX8_split wsX8_isLine := goodIn_r _ [13, 14, 15, 16, 17, 8, 9, 5, 10] (by decide +kernel) (by decide +kernel)
set_option maxRecDepth 20000 in
theorem gX8_split_X8_isLine : GoodIn wsX8_split (va_wsS RX8 189 yX8_isLine wsX8_isLine) := goodIn_app (goodIn_of _ (by decide +kernel)) ggX8_split_X8_isLine
set_option maxRecDepth 20000 in
theorem ggX8_split_X8_aheadOf : GoodIn wsX8_split wsX8_aheadOf := goodIn_r _ [20] (by decide +kernel) (by decide +kernel)
set_option maxRecDepth 20000 in
theorem gX8_split_X8_aheadOf : GoodIn wsX8_split (va_wsS RX8 193 yX8_aheadOf wsX8_aheadOf) := goodIn_app (goodIn_of _ (by decide +kernel)) ggX8_split_X8_aheadOf
set_option maxRecDepth 20000 in
theorem ggX8_split_X8_ones : GoodIn wsX8_split wsX8_ones := goodIn_r _ [23] (by decide +kernel) (by decide +kernel)
set_option maxRecDepth 20000 in
theorem gX8_split_X8_ones : GoodIn wsX8_split (va_wsS RX8 110 yX8_ones wsX8_ones) := goodIn_app (goodIn_of _ (by decide +kernel)) ggX8_split_X8_ones
theorem dX8_split_0 : decode cX8_split 0 = .ok (.iload_n 1, 1) := by decide +kernel
theorem dX8_split_1 : decode cX8_split 1 = .ok (.invokestatic 106, 3) := by decide +kernel
theorem dX8_split_4 : decode cX8_split 4 = .ok (.ifCond .eq 11, 3) := by decide +kernel
theorem dX8_split_7 : decode cX8_split 7 = .ok (.iload 4, 2) := by decide +kernel
theorem dX8_split_9 : decode cX8_split 9 = .ok (.invokestatic 106, 3) := by decide +kernel
theorem dX8_split_12 : decode cX8_split 12 = .ok (.ifCond .ne 5, 3) := by decide +kernel
theorem dX8_split_15 : decode cX8_split 15 = .ok (.iconst (-1), 1) := by decide +kernel
theorem dX8_split_16 : decode cX8_split 16 = .ok (.ireturn, 1) := by decide +kernel
theorem dX8_split_17 : decode cX8_split 17 = .ok (.iload_n 2, 1) := by decide +kernel
theorem dX8_split_18 : decode cX8_split 18 = .ok (.iload_n 3, 1) := by decide +kernel
theorem dX8_split_19 : decode cX8_split 19 = .ok (.invokestatic 189, 3) := by decide +kernel
theorem dX8_split_22 : decode cX8_split 22 = .ok (.ifCond .ne 6, 3) := by decide +kernel
theorem dX8_split_25 : decode cX8_split 25 = .ok (.bipush (-2), 2) := by decide +kernel
theorem dX8_split_27 : decode cX8_split 27 = .ok (.ireturn, 1) := by decide +kernel
theorem dX8_split_28 : decode cX8_split 28 = .ok (.iload_n 1, 1) := by decide +kernel
theorem dX8_split_29 : decode cX8_split 29 = .ok (.iload 4, 2) := by decide +kernel
theorem dX8_split_31 : decode cX8_split 31 = .ok (.if_icmp .ne 6, 3) := by decide +kernel
theorem dX8_split_34 : decode cX8_split 34 = .ok (.bipush (-3), 2) := by decide +kernel
theorem dX8_split_36 : decode cX8_split 36 = .ok (.ireturn, 1) := by decide +kernel
theorem dX8_split_37 : decode cX8_split 37 = .ok (.iload_n 2, 1) := by decide +kernel
theorem dX8_split_38 : decode cX8_split 38 = .ok (.iload_n 3, 1) := by decide +kernel
theorem dX8_split_39 : decode cX8_split 39 = .ok (.invokestatic 193, 3) := by decide +kernel
theorem dX8_split_42 : decode cX8_split 42 = .ok (.lstore 5, 2) := by decide +kernel
theorem dX8_split_44 : decode cX8_split 44 = .ok (.aload_n 0, 1) := by decide +kernel
theorem dX8_split_45 : decode cX8_split 45 = .ok (.getfield 17, 3) := by decide +kernel
theorem dX8_split_48 : decode cX8_split 48 = .ok (.iload 4, 2) := by decide +kernel
theorem dX8_split_50 : decode cX8_split 50 = .ok (.aload_n 0, 1) := by decide +kernel
theorem dX8_split_51 : decode cX8_split 51 = .ok (.getfield 17, 3) := by decide +kernel
theorem dX8_split_54 : decode cX8_split 54 = .ok (.iload_n 1, 1) := by decide +kernel
theorem dX8_split_55 : decode cX8_split 55 = .ok (.laload, 1) := by decide +kernel
theorem dX8_split_56 : decode cX8_split 56 = .ok (.lload 5, 2) := by decide +kernel
theorem dX8_split_58 : decode cX8_split 58 = .ok (.ldc2_w 118, 3) := by decide +kernel
theorem dX8_split_61 : decode cX8_split 61 = .ok (.lxor, 1) := by decide +kernel
theorem dX8_split_62 : decode cX8_split 62 = .ok (.land, 1) := by decide +kernel
theorem dX8_split_63 : decode cX8_split 63 = .ok (.lastore, 1) := by decide +kernel
theorem dX8_split_64 : decode cX8_split 64 = .ok (.aload_n 0, 1) := by decide +kernel
theorem dX8_split_65 : decode cX8_split 65 = .ok (.getfield 17, 3) := by decide +kernel
theorem dX8_split_68 : decode cX8_split 68 = .ok (.iload_n 1, 1) := by decide +kernel
theorem dX8_split_69 : decode cX8_split 69 = .ok (.dup2, 1) := by decide +kernel
theorem dX8_split_70 : decode cX8_split 70 = .ok (.laload, 1) := by decide +kernel
theorem dX8_split_71 : decode cX8_split 71 = .ok (.lload 5, 2) := by decide +kernel
theorem dX8_split_73 : decode cX8_split 73 = .ok (.land, 1) := by decide +kernel
theorem dX8_split_74 : decode cX8_split 74 = .ok (.lastore, 1) := by decide +kernel
theorem dX8_split_75 : decode cX8_split 75 = .ok (.aload_n 0, 1) := by decide +kernel
theorem dX8_split_76 : decode cX8_split 76 = .ok (.getfield 17, 3) := by decide +kernel
theorem dX8_split_79 : decode cX8_split 79 = .ok (.iload 4, 2) := by decide +kernel
theorem dX8_split_81 : decode cX8_split 81 = .ok (.laload, 1) := by decide +kernel
theorem dX8_split_82 : decode cX8_split 82 = .ok (.invokestatic 110, 3) := by decide +kernel
theorem dX8_split_85 : decode cX8_split 85 = .ok (.ireturn, 1) := by decide +kernel
set_option maxRecDepth 20000 in
theorem ggX8_part_X8_isFigure : GoodIn wsX8_part wsX8_isFigure := goodIn_r _ [5, 6, 7, 8, 4, 9] (by decide +kernel) (by decide +kernel)
set_option maxRecDepth 20000 in
theorem gX8_part_X8_isFigure : GoodIn wsX8_part (va_wsS RX8 106 yX8_isFigure wsX8_isFigure) := goodIn_app (goodIn_of _ (by decide +kernel)) ggX8_part_X8_isFigure
set_option maxRecDepth 20000 in
theorem ggX8_part_X8_partOf : GoodIn wsX8_part wsX8_partOf := goodIn_r _ [13, 14, 15, 16, 4, 17, 18, 19, 20, 21, 22, 26, 27, 28, 29, 30, 31, 32, 33, 34, 35, 36, 37, 38, 39, 40, 41, 42, 43, 44, 45, 46, 47, 48] (by decide +kernel) (by decide +kernel)
set_option maxRecDepth 20000 in
theorem gX8_part_X8_partOf : GoodIn wsX8_part (wsV RX8 128 RX8 yX8_partOf wsX8_partOf) := goodIn_app (goodIn_of _ (by decide +kernel)) ggX8_part_X8_partOf
set_option maxRecDepth 20000 in
theorem ggX8_part_X8_ones : GoodIn wsX8_part wsX8_ones := goodIn_r _ [25] (by decide +kernel) (by decide +kernel)
set_option maxRecDepth 20000 in
theorem gX8_part_X8_ones : GoodIn wsX8_part (va_wsS RX8 110 yX8_ones wsX8_ones) := goodIn_app (goodIn_of _ (by decide +kernel)) ggX8_part_X8_ones
theorem dX8_part_0 : decode cX8_part 0 = .ok (.iload_n 1, 1) := by decide +kernel
theorem dX8_part_1 : decode cX8_part 1 = .ok (.invokestatic 106, 3) := by decide +kernel
theorem dX8_part_4 : decode cX8_part 4 = .ok (.ifCond .eq 10, 3) := by decide +kernel
theorem dX8_part_7 : decode cX8_part 7 = .ok (.iload_n 2, 1) := by decide +kernel
theorem dX8_part_8 : decode cX8_part 8 = .ok (.invokestatic 106, 3) := by decide +kernel
theorem dX8_part_11 : decode cX8_part 11 = .ok (.ifCond .ne 5, 3) := by decide +kernel
theorem dX8_part_14 : decode cX8_part 14 = .ok (.iconst (-1), 1) := by decide +kernel
theorem dX8_part_15 : decode cX8_part 15 = .ok (.ireturn, 1) := by decide +kernel
theorem dX8_part_16 : decode cX8_part 16 = .ok (.iload_n 3, 1) := by decide +kernel
theorem dX8_part_17 : decode cX8_part 17 = .ok (.ifCond .ge 7, 3) := by decide +kernel
theorem dX8_part_20 : decode cX8_part 20 = .ok (.lconst 0, 1) := by decide +kernel
theorem dX8_part_21 : decode cX8_part 21 = .ok (.goto 14, 3) := by decide +kernel
theorem dX8_part_24 : decode cX8_part 24 = .ok (.aload_n 0, 1) := by decide +kernel
theorem dX8_part_25 : decode cX8_part 25 = .ok (.aload_n 0, 1) := by decide +kernel
theorem dX8_part_26 : decode cX8_part 26 = .ok (.getfield 17, 3) := by decide +kernel
theorem dX8_part_29 : decode cX8_part 29 = .ok (.iload_n 2, 1) := by decide +kernel
theorem dX8_part_30 : decode cX8_part 30 = .ok (.laload, 1) := by decide +kernel
theorem dX8_part_31 : decode cX8_part 31 = .ok (.iload_n 3, 1) := by decide +kernel
theorem dX8_part_32 : decode cX8_part 32 = .ok (.invokevirtual 128, 3) := by decide +kernel
theorem dX8_part_35 : decode cX8_part 35 = .ok (.lstore 4, 2) := by decide +kernel
theorem dX8_part_37 : decode cX8_part 37 = .ok (.lload 4, 2) := by decide +kernel
theorem dX8_part_39 : decode cX8_part 39 = .ok (.lconst 0, 1) := by decide +kernel
theorem dX8_part_40 : decode cX8_part 40 = .ok (.lcmp, 1) := by decide +kernel
theorem dX8_part_41 : decode cX8_part 41 = .ok (.ifCond .ne 6, 3) := by decide +kernel
theorem dX8_part_44 : decode cX8_part 44 = .ok (.bipush (-3), 2) := by decide +kernel
theorem dX8_part_46 : decode cX8_part 46 = .ok (.ireturn, 1) := by decide +kernel
theorem dX8_part_47 : decode cX8_part 47 = .ok (.aload_n 0, 1) := by decide +kernel
theorem dX8_part_48 : decode cX8_part 48 = .ok (.getfield 17, 3) := by decide +kernel
theorem dX8_part_51 : decode cX8_part 51 = .ok (.iload_n 1, 1) := by decide +kernel
theorem dX8_part_52 : decode cX8_part 52 = .ok (.lload 4, 2) := by decide +kernel
theorem dX8_part_54 : decode cX8_part 54 = .ok (.lastore, 1) := by decide +kernel
theorem dX8_part_55 : decode cX8_part 55 = .ok (.lload 4, 2) := by decide +kernel
theorem dX8_part_57 : decode cX8_part 57 = .ok (.invokestatic 110, 3) := by decide +kernel
theorem dX8_part_60 : decode cX8_part 60 = .ok (.ireturn, 1) := by decide +kernel
set_option maxRecDepth 20000 in
theorem ggX8_isPiece_X8_in : GoodIn wsX8_isPiece wsX8_in := goodIn_r _ [5] (by decide +kernel) (by decide +kernel)
set_option maxRecDepth 20000 in
theorem gX8_isPiece_X8_in : GoodIn wsX8_isPiece (va_wsS RX8 75 yX8_in wsX8_in) := goodIn_app (goodIn_of _ (by decide +kernel)) ggX8_isPiece_X8_in
theorem dX8_isPiece_0 : decode cX8_isPiece 0 = .ok (.iload_n 1, 1) := by decide +kernel
theorem dX8_isPiece_1 : decode cX8_isPiece 1 = .ok (.i2l, 1) := by decide +kernel
theorem dX8_isPiece_2 : decode cX8_isPiece 2 = .ok (.lconst 0, 1) := by decide +kernel
theorem dX8_isPiece_3 : decode cX8_isPiece 3 = .ok (.aload_n 0, 1) := by decide +kernel
theorem dX8_isPiece_4 : decode cX8_isPiece 4 = .ok (.getfield 197, 3) := by decide +kernel
theorem dX8_isPiece_7 : decode cX8_isPiece 7 = .ok (.iconst 1, 1) := by decide +kernel
theorem dX8_isPiece_8 : decode cX8_isPiece 8 = .ok (.isub, 1) := by decide +kernel
theorem dX8_isPiece_9 : decode cX8_isPiece 9 = .ok (.i2l, 1) := by decide +kernel
theorem dX8_isPiece_10 : decode cX8_isPiece 10 = .ok (.invokestatic 75, 3) := by decide +kernel
theorem dX8_isPiece_13 : decode cX8_isPiece 13 = .ok (.ireturn, 1) := by decide +kernel
set_option maxRecDepth 20000 in
theorem ggX8_lay_X8_isFigure : GoodIn wsX8_lay wsX8_isFigure := goodIn_r _ [8, 9, 10, 11, 7, 12] (by decide +kernel) (by decide +kernel)
set_option maxRecDepth 20000 in
theorem gX8_lay_X8_isFigure : GoodIn wsX8_lay (va_wsS RX8 106 yX8_isFigure wsX8_isFigure) := goodIn_app (goodIn_of _ (by decide +kernel)) ggX8_lay_X8_isFigure
theorem dX8_lay_0 : decode cX8_lay 0 = .ok (.iload_n 1, 1) := by decide +kernel
theorem dX8_lay_1 : decode cX8_lay 1 = .ok (.invokestatic 106, 3) := by decide +kernel
theorem dX8_lay_4 : decode cX8_lay 4 = .ok (.ifCond .ne 5, 3) := by decide +kernel
theorem dX8_lay_7 : decode cX8_lay 7 = .ok (.iconst (-1), 1) := by decide +kernel
theorem dX8_lay_8 : decode cX8_lay 8 = .ok (.ireturn, 1) := by decide +kernel
theorem dX8_lay_9 : decode cX8_lay 9 = .ok (.aload_n 0, 1) := by decide +kernel
theorem dX8_lay_10 : decode cX8_lay 10 = .ok (.getfield 17, 3) := by decide +kernel
theorem dX8_lay_13 : decode cX8_lay 13 = .ok (.iload_n 1, 1) := by decide +kernel
theorem dX8_lay_14 : decode cX8_lay 14 = .ok (.laload, 1) := by decide +kernel
theorem dX8_lay_15 : decode cX8_lay 15 = .ok (.lconst 0, 1) := by decide +kernel
theorem dX8_lay_16 : decode cX8_lay 16 = .ok (.lcmp, 1) := by decide +kernel
theorem dX8_lay_17 : decode cX8_lay 17 = .ok (.ifCond .ne 6, 3) := by decide +kernel
theorem dX8_lay_20 : decode cX8_lay 20 = .ok (.bipush (-3), 2) := by decide +kernel
theorem dX8_lay_22 : decode cX8_lay 22 = .ok (.ireturn, 1) := by decide +kernel
theorem dX8_lay_23 : decode cX8_lay 23 = .ok (.aload_n 0, 1) := by decide +kernel
theorem dX8_lay_24 : decode cX8_lay 24 = .ok (.getfield 197, 3) := by decide +kernel
theorem dX8_lay_27 : decode cX8_lay 27 = .ok (.iconst 4, 1) := by decide +kernel
theorem dX8_lay_28 : decode cX8_lay 28 = .ok (.if_icmp .ne 6, 3) := by decide +kernel
theorem dX8_lay_31 : decode cX8_lay 31 = .ok (.bipush (-4), 2) := by decide +kernel
theorem dX8_lay_33 : decode cX8_lay 33 = .ok (.ireturn, 1) := by decide +kernel
theorem dX8_lay_34 : decode cX8_lay 34 = .ok (.aload_n 0, 1) := by decide +kernel
theorem dX8_lay_35 : decode cX8_lay 35 = .ok (.getfield 33, 3) := by decide +kernel
theorem dX8_lay_38 : decode cX8_lay 38 = .ok (.aload_n 0, 1) := by decide +kernel
theorem dX8_lay_39 : decode cX8_lay 39 = .ok (.getfield 197, 3) := by decide +kernel
theorem dX8_lay_42 : decode cX8_lay 42 = .ok (.aload_n 0, 1) := by decide +kernel
theorem dX8_lay_43 : decode cX8_lay 43 = .ok (.getfield 17, 3) := by decide +kernel
theorem dX8_lay_46 : decode cX8_lay 46 = .ok (.iload_n 1, 1) := by decide +kernel
theorem dX8_lay_47 : decode cX8_lay 47 = .ok (.laload, 1) := by decide +kernel
theorem dX8_lay_48 : decode cX8_lay 48 = .ok (.lastore, 1) := by decide +kernel
theorem dX8_lay_49 : decode cX8_lay 49 = .ok (.aload_n 0, 1) := by decide +kernel
theorem dX8_lay_50 : decode cX8_lay 50 = .ok (.getfield 36, 3) := by decide +kernel
theorem dX8_lay_53 : decode cX8_lay 53 = .ok (.aload_n 0, 1) := by decide +kernel
theorem dX8_lay_54 : decode cX8_lay 54 = .ok (.getfield 197, 3) := by decide +kernel
theorem dX8_lay_57 : decode cX8_lay 57 = .ok (.iload_n 2, 1) := by decide +kernel
theorem dX8_lay_58 : decode cX8_lay 58 = .ok (.bastore, 1) := by decide +kernel
theorem dX8_lay_59 : decode cX8_lay 59 = .ok (.aload_n 0, 1) := by decide +kernel
theorem dX8_lay_60 : decode cX8_lay 60 = .ok (.dup, 1) := by decide +kernel
theorem dX8_lay_61 : decode cX8_lay 61 = .ok (.getfield 197, 3) := by decide +kernel
theorem dX8_lay_64 : decode cX8_lay 64 = .ok (.iconst 1, 1) := by decide +kernel
theorem dX8_lay_65 : decode cX8_lay 65 = .ok (.iadd, 1) := by decide +kernel
theorem dX8_lay_66 : decode cX8_lay 66 = .ok (.putfield 197, 3) := by decide +kernel
theorem dX8_lay_69 : decode cX8_lay 69 = .ok (.aload_n 0, 1) := by decide +kernel
theorem dX8_lay_70 : decode cX8_lay 70 = .ok (.getfield 197, 3) := by decide +kernel
theorem dX8_lay_73 : decode cX8_lay 73 = .ok (.iconst 1, 1) := by decide +kernel
theorem dX8_lay_74 : decode cX8_lay 74 = .ok (.isub, 1) := by decide +kernel
theorem dX8_lay_75 : decode cX8_lay 75 = .ok (.ireturn, 1) := by decide +kernel
theorem dX8_lift_0 : decode cX8_lift 0 = .ok (.aload_n 0, 1) := by decide +kernel
theorem dX8_lift_1 : decode cX8_lift 1 = .ok (.getfield 197, 3) := by decide +kernel
theorem dX8_lift_4 : decode cX8_lift 4 = .ok (.ifCond .ne 6, 3) := by decide +kernel
theorem dX8_lift_7 : decode cX8_lift 7 = .ok (.bipush (-3), 2) := by decide +kernel
theorem dX8_lift_9 : decode cX8_lift 9 = .ok (.ireturn, 1) := by decide +kernel
theorem dX8_lift_10 : decode cX8_lift 10 = .ok (.aload_n 0, 1) := by decide +kernel
theorem dX8_lift_11 : decode cX8_lift 11 = .ok (.dup, 1) := by decide +kernel
theorem dX8_lift_12 : decode cX8_lift 12 = .ok (.getfield 197, 3) := by decide +kernel
theorem dX8_lift_15 : decode cX8_lift 15 = .ok (.iconst 1, 1) := by decide +kernel
theorem dX8_lift_16 : decode cX8_lift 16 = .ok (.isub, 1) := by decide +kernel
theorem dX8_lift_17 : decode cX8_lift 17 = .ok (.putfield 197, 3) := by decide +kernel
theorem dX8_lift_20 : decode cX8_lift 20 = .ok (.aload_n 0, 1) := by decide +kernel
theorem dX8_lift_21 : decode cX8_lift 21 = .ok (.getfield 197, 3) := by decide +kernel
theorem dX8_lift_24 : decode cX8_lift 24 = .ok (.ireturn, 1) := by decide +kernel
set_option maxRecDepth 20000 in
theorem ggX8_piece_X8_isPiece : GoodIn wsX8_piece wsX8_isPiece := goodIn_r _ [6, 7, 8, 9, 5, 10, 11, 12, 13, 14, 15, 16, 17, 18, 19, 20, 21, 22, 23, 24, 25, 26, 27, 28, 29, 30, 31, 32, 33] (by decide +kernel) (by decide +kernel)
set_option maxRecDepth 20000 in
theorem gX8_piece_X8_isPiece : GoodIn wsX8_piece (wsV RX8 200 RX8 yX8_isPiece wsX8_isPiece) := goodIn_app (goodIn_of _ (by decide +kernel)) ggX8_piece_X8_isPiece
theorem dX8_piece_0 : decode cX8_piece 0 = .ok (.aload_n 0, 1) := by decide +kernel
theorem dX8_piece_1 : decode cX8_piece 1 = .ok (.iload_n 1, 1) := by decide +kernel
theorem dX8_piece_2 : decode cX8_piece 2 = .ok (.invokevirtual 200, 3) := by decide +kernel
theorem dX8_piece_5 : decode cX8_piece 5 = .ok (.ifCond .eq 12, 3) := by decide +kernel
theorem dX8_piece_8 : decode cX8_piece 8 = .ok (.aload_n 0, 1) := by decide +kernel
theorem dX8_piece_9 : decode cX8_piece 9 = .ok (.getfield 33, 3) := by decide +kernel
theorem dX8_piece_12 : decode cX8_piece 12 = .ok (.iload_n 1, 1) := by decide +kernel
theorem dX8_piece_13 : decode cX8_piece 13 = .ok (.laload, 1) := by decide +kernel
theorem dX8_piece_14 : decode cX8_piece 14 = .ok (.goto 4, 3) := by decide +kernel
theorem dX8_piece_17 : decode cX8_piece 17 = .ok (.lconst 0, 1) := by decide +kernel
theorem dX8_piece_18 : decode cX8_piece 18 = .ok (.lreturn, 1) := by decide +kernel
set_option maxRecDepth 20000 in
theorem ggX8_layPlaces_X8_layLikes : GoodIn wsX8_layPlaces wsX8_layLikes := goodIn_r _ [12, 4, 13, 14, 15, 11, 16, 17, 18, 19, 20, 21, 22, 23, 24, 25, 26, 27, 28, 29, 30, 31, 32, 33, 34, 35, 5, 36, 37, 38, 39, 40, 41, 42, 43, 44, 45, 46, 47, 48, 49, 50, 51, 52, 53, 54, 55, 56, 57, 58, 59, 60, 61, 62] (by decide +kernel) (by decide +kernel)
set_option maxRecDepth 20000 in
theorem gX8_layPlaces_X8_layLikes : GoodIn wsX8_layPlaces (wsV RX8 178 RX8 yX8_layLikes wsX8_layLikes) := goodIn_app (goodIn_of _ (by decide +kernel)) ggX8_layPlaces_X8_layLikes
theorem dX8_layPlaces_0 : decode cX8_layPlaces 0 = .ok (.aload_n 0, 1) := by decide +kernel
theorem dX8_layPlaces_1 : decode cX8_layPlaces 1 = .ok (.aload_n 0, 1) := by decide +kernel
theorem dX8_layPlaces_2 : decode cX8_layPlaces 2 = .ok (.getfield 33, 3) := by decide +kernel
theorem dX8_layPlaces_5 : decode cX8_layPlaces 5 = .ok (.iload_n 1, 1) := by decide +kernel
theorem dX8_layPlaces_6 : decode cX8_layPlaces 6 = .ok (.laload, 1) := by decide +kernel
theorem dX8_layPlaces_7 : decode cX8_layPlaces 7 = .ok (.aload_n 0, 1) := by decide +kernel
theorem dX8_layPlaces_8 : decode cX8_layPlaces 8 = .ok (.getfield 36, 3) := by decide +kernel
theorem dX8_layPlaces_11 : decode cX8_layPlaces 11 = .ok (.iload_n 1, 1) := by decide +kernel
theorem dX8_layPlaces_12 : decode cX8_layPlaces 12 = .ok (.baload, 1) := by decide +kernel
theorem dX8_layPlaces_13 : decode cX8_layPlaces 13 = .ok (.ifCond .eq 8, 3) := by decide +kernel
theorem dX8_layPlaces_16 : decode cX8_layPlaces 16 = .ok (.bipush 8, 2) := by decide +kernel
theorem dX8_layPlaces_18 : decode cX8_layPlaces 18 = .ok (.goto 4, 3) := by decide +kernel
theorem dX8_layPlaces_21 : decode cX8_layPlaces 21 = .ok (.iconst 4, 1) := by decide +kernel
theorem dX8_layPlaces_22 : decode cX8_layPlaces 22 = .ok (.invokevirtual 178, 3) := by decide +kernel
theorem dX8_layPlaces_25 : decode cX8_layPlaces 25 = .ok (.aload_n 0, 1) := by decide +kernel
theorem dX8_layPlaces_26 : decode cX8_layPlaces 26 = .ok (.getfield 42, 3) := by decide +kernel
theorem dX8_layPlaces_29 : decode cX8_layPlaces 29 = .ok (.iload_n 1, 1) := by decide +kernel
theorem dX8_layPlaces_30 : decode cX8_layPlaces 30 = .ok (.iconst 0, 1) := by decide +kernel
theorem dX8_layPlaces_31 : decode cX8_layPlaces 31 = .ok (.iastore, 1) := by decide +kernel
theorem dX8_layPlaces_32 : decode cX8_layPlaces 32 = .ok (.iconst 0, 1) := by decide +kernel
theorem dX8_layPlaces_33 : decode cX8_layPlaces 33 = .ok (.istore 4, 2) := by decide +kernel
theorem dX8_layPlaces_35 : decode cX8_layPlaces 35 = .ok (.iload 4, 2) := by decide +kernel
theorem dX8_layPlaces_37 : decode cX8_layPlaces 37 = .ok (.aload_n 0, 1) := by decide +kernel
theorem dX8_layPlaces_38 : decode cX8_layPlaces 38 = .ok (.getfield 168, 3) := by decide +kernel
theorem dX8_layPlaces_41 : decode cX8_layPlaces 41 = .ok (.if_icmp .ge 61, 3) := by decide +kernel
theorem dX8_layPlaces_44 : decode cX8_layPlaces 44 = .ok (.aload_n 0, 1) := by decide +kernel
theorem dX8_layPlaces_45 : decode cX8_layPlaces 45 = .ok (.getfield 30, 3) := by decide +kernel
theorem dX8_layPlaces_48 : decode cX8_layPlaces 48 = .ok (.iload 4, 2) := by decide +kernel
theorem dX8_layPlaces_50 : decode cX8_layPlaces 50 = .ok (.laload, 1) := by decide +kernel
theorem dX8_layPlaces_51 : decode cX8_layPlaces 51 = .ok (.lload_n 2, 1) := by decide +kernel
theorem dX8_layPlaces_52 : decode cX8_layPlaces 52 = .ok (.ldc2_w 118, 3) := by decide +kernel
theorem dX8_layPlaces_55 : decode cX8_layPlaces 55 = .ok (.lxor, 1) := by decide +kernel
theorem dX8_layPlaces_56 : decode cX8_layPlaces 56 = .ok (.land, 1) := by decide +kernel
theorem dX8_layPlaces_57 : decode cX8_layPlaces 57 = .ok (.lconst 0, 1) := by decide +kernel
theorem dX8_layPlaces_58 : decode cX8_layPlaces 58 = .ok (.lcmp, 1) := by decide +kernel
theorem dX8_layPlaces_59 : decode cX8_layPlaces 59 = .ok (.ifCond .ne 37, 3) := by decide +kernel
theorem dX8_layPlaces_62 : decode cX8_layPlaces 62 = .ok (.aload_n 0, 1) := by decide +kernel
theorem dX8_layPlaces_63 : decode cX8_layPlaces 63 = .ok (.getfield 39, 3) := by decide +kernel
theorem dX8_layPlaces_66 : decode cX8_layPlaces 66 = .ok (.sipush 400, 3) := by decide +kernel
theorem dX8_layPlaces_69 : decode cX8_layPlaces 69 = .ok (.iload_n 1, 1) := by decide +kernel
theorem dX8_layPlaces_70 : decode cX8_layPlaces 70 = .ok (.imul, 1) := by decide +kernel
theorem dX8_layPlaces_71 : decode cX8_layPlaces 71 = .ok (.aload_n 0, 1) := by decide +kernel
theorem dX8_layPlaces_72 : decode cX8_layPlaces 72 = .ok (.getfield 42, 3) := by decide +kernel
theorem dX8_layPlaces_75 : decode cX8_layPlaces 75 = .ok (.iload_n 1, 1) := by decide +kernel
theorem dX8_layPlaces_76 : decode cX8_layPlaces 76 = .ok (.iaload, 1) := by decide +kernel
theorem dX8_layPlaces_77 : decode cX8_layPlaces 77 = .ok (.iadd, 1) := by decide +kernel
theorem dX8_layPlaces_78 : decode cX8_layPlaces 78 = .ok (.aload_n 0, 1) := by decide +kernel
theorem dX8_layPlaces_79 : decode cX8_layPlaces 79 = .ok (.getfield 30, 3) := by decide +kernel
theorem dX8_layPlaces_82 : decode cX8_layPlaces 82 = .ok (.iload 4, 2) := by decide +kernel
theorem dX8_layPlaces_84 : decode cX8_layPlaces 84 = .ok (.laload, 1) := by decide +kernel
theorem dX8_layPlaces_85 : decode cX8_layPlaces 85 = .ok (.lastore, 1) := by decide +kernel
theorem dX8_layPlaces_86 : decode cX8_layPlaces 86 = .ok (.aload_n 0, 1) := by decide +kernel
theorem dX8_layPlaces_87 : decode cX8_layPlaces 87 = .ok (.getfield 42, 3) := by decide +kernel
theorem dX8_layPlaces_90 : decode cX8_layPlaces 90 = .ok (.iload_n 1, 1) := by decide +kernel
theorem dX8_layPlaces_91 : decode cX8_layPlaces 91 = .ok (.dup2, 1) := by decide +kernel
theorem dX8_layPlaces_92 : decode cX8_layPlaces 92 = .ok (.iaload, 1) := by decide +kernel
theorem dX8_layPlaces_93 : decode cX8_layPlaces 93 = .ok (.iconst 1, 1) := by decide +kernel
theorem dX8_layPlaces_94 : decode cX8_layPlaces 94 = .ok (.iadd, 1) := by decide +kernel
theorem dX8_layPlaces_95 : decode cX8_layPlaces 95 = .ok (.iastore, 1) := by decide +kernel
theorem dX8_layPlaces_96 : decode cX8_layPlaces 96 = .ok (.iinc 4 1, 3) := by decide +kernel
theorem dX8_layPlaces_99 : decode cX8_layPlaces 99 = .ok (.goto (-64), 3) := by decide +kernel
theorem dX8_layPlaces_102 : decode cX8_layPlaces 102 = .ok (.return_, 1) := by decide +kernel
set_option maxRecDepth 20000 in
theorem ggX8_places_X8_isPiece : GoodIn wsX8_places wsX8_isPiece := goodIn_r _ [7, 8, 9, 10, 6, 11, 54, 55, 56, 57, 58, 59, 60, 61, 62, 63, 64, 65, 66, 67, 68, 69, 70, 71, 72, 73, 74, 75, 76] (by decide +kernel) (by decide +kernel)
set_option maxRecDepth 20000 in
theorem gX8_places_X8_isPiece : GoodIn wsX8_places (wsV RX8 200 RX8 yX8_isPiece wsX8_isPiece) := goodIn_app (goodIn_of _ (by decide +kernel)) ggX8_places_X8_isPiece
set_option maxRecDepth 20000 in
theorem ggX8_places_X8_isFigure : GoodIn wsX8_places wsX8_isFigure := goodIn_r _ [14, 15, 9, 10, 6, 11] (by decide +kernel) (by decide +kernel)
set_option maxRecDepth 20000 in
theorem gX8_places_X8_isFigure : GoodIn wsX8_places (va_wsS RX8 106 yX8_isFigure wsX8_isFigure) := goodIn_app (goodIn_of _ (by decide +kernel)) ggX8_places_X8_isFigure
set_option maxRecDepth 20000 in
theorem ggX8_places_X8_layPlaces : GoodIn wsX8_places wsX8_layPlaces := goodIn_r _ [19, 20, 21, 2, 22, 23, 24, 25, 26, 27, 28, 6, 29, 30, 31, 32, 33, 34, 35, 36, 37, 38, 39, 40, 41, 42, 9, 10, 11, 43, 44, 45, 46, 47, 48, 49, 50, 51, 52, 53, 54, 55, 56, 57, 58, 59, 60, 61, 62, 63, 64, 65, 66, 67, 68, 69, 70, 71, 72, 73, 74, 75, 76] (by decide +kernel) (by decide +kernel)
set_option maxRecDepth 20000 in
theorem gX8_places_X8_layPlaces : GoodIn wsX8_places (wsV RX8 203 RX8 yX8_layPlaces wsX8_layPlaces) := goodIn_app (goodIn_of _ (by decide +kernel)) ggX8_places_X8_layPlaces
theorem dX8_places_0 : decode cX8_places 0 = .ok (.aload_n 0, 1) := by decide +kernel
theorem dX8_places_1 : decode cX8_places 1 = .ok (.iload_n 1, 1) := by decide +kernel
theorem dX8_places_2 : decode cX8_places 2 = .ok (.invokevirtual 200, 3) := by decide +kernel
theorem dX8_places_5 : decode cX8_places 5 = .ok (.ifCond .eq 10, 3) := by decide +kernel
theorem dX8_places_8 : decode cX8_places 8 = .ok (.iload_n 2, 1) := by decide +kernel
theorem dX8_places_9 : decode cX8_places 9 = .ok (.invokestatic 106, 3) := by decide +kernel
theorem dX8_places_12 : decode cX8_places 12 = .ok (.ifCond .ne 5, 3) := by decide +kernel
theorem dX8_places_15 : decode cX8_places 15 = .ok (.iconst (-1), 1) := by decide +kernel
theorem dX8_places_16 : decode cX8_places 16 = .ok (.ireturn, 1) := by decide +kernel
theorem dX8_places_17 : decode cX8_places 17 = .ok (.aload_n 0, 1) := by decide +kernel
theorem dX8_places_18 : decode cX8_places 18 = .ok (.iload_n 1, 1) := by decide +kernel
theorem dX8_places_19 : decode cX8_places 19 = .ok (.aload_n 0, 1) := by decide +kernel
theorem dX8_places_20 : decode cX8_places 20 = .ok (.getfield 17, 3) := by decide +kernel
theorem dX8_places_23 : decode cX8_places 23 = .ok (.iload_n 2, 1) := by decide +kernel
theorem dX8_places_24 : decode cX8_places 24 = .ok (.laload, 1) := by decide +kernel
theorem dX8_places_25 : decode cX8_places 25 = .ok (.invokevirtual 203, 3) := by decide +kernel
theorem dX8_places_28 : decode cX8_places 28 = .ok (.aload_n 0, 1) := by decide +kernel
theorem dX8_places_29 : decode cX8_places 29 = .ok (.getfield 42, 3) := by decide +kernel
theorem dX8_places_32 : decode cX8_places 32 = .ok (.iload_n 1, 1) := by decide +kernel
theorem dX8_places_33 : decode cX8_places 33 = .ok (.iaload, 1) := by decide +kernel
theorem dX8_places_34 : decode cX8_places 34 = .ok (.ireturn, 1) := by decide +kernel
set_option maxRecDepth 20000 in
theorem ggX8_place_X8_isPiece : GoodIn wsX8_place wsX8_isPiece := goodIn_r _ [8, 9, 10, 11, 7, 12, 54, 55, 56, 57, 58, 59, 60, 61, 62, 63, 64, 65, 66, 67, 68, 69, 70, 71, 72, 73, 74, 75, 76] (by decide +kernel) (by decide +kernel)
set_option maxRecDepth 20000 in
theorem gX8_place_X8_isPiece : GoodIn wsX8_place (wsV RX8 200 RX8 yX8_isPiece wsX8_isPiece) := goodIn_app (goodIn_of _ (by decide +kernel)) ggX8_place_X8_isPiece
set_option maxRecDepth 20000 in
theorem ggX8_place_X8_isFigure : GoodIn wsX8_place wsX8_isFigure := goodIn_r _ [15, 16, 10, 11, 7, 12] (by decide +kernel) (by decide +kernel)
set_option maxRecDepth 20000 in
theorem gX8_place_X8_isFigure : GoodIn wsX8_place (va_wsS RX8 106 yX8_isFigure wsX8_isFigure) := goodIn_app (goodIn_of _ (by decide +kernel)) ggX8_place_X8_isFigure
set_option maxRecDepth 20000 in
theorem ggX8_place_X8_layPlaces : GoodIn wsX8_place wsX8_layPlaces := goodIn_r _ [20, 21, 22, 2, 23, 24, 25, 3, 26, 27, 28, 7, 29, 30, 31, 32, 33, 34, 35, 36, 37, 38, 39, 40, 41, 42, 10, 11, 12, 43, 44, 45, 46, 47, 48, 49, 50, 51, 52, 53, 54, 55, 56, 57, 58, 59, 60, 61, 62, 63, 64, 65, 66, 67, 68, 69, 70, 71, 72, 73, 74, 75, 76] (by decide +kernel) (by decide +kernel)
set_option maxRecDepth 20000 in
theorem gX8_place_X8_layPlaces : GoodIn wsX8_place (wsV RX8 203 RX8 yX8_layPlaces wsX8_layPlaces) := goodIn_app (goodIn_of _ (by decide +kernel)) ggX8_place_X8_layPlaces
theorem dX8_place_0 : decode cX8_place 0 = .ok (.aload_n 0, 1) := by decide +kernel
theorem dX8_place_1 : decode cX8_place 1 = .ok (.iload_n 1, 1) := by decide +kernel
theorem dX8_place_2 : decode cX8_place 2 = .ok (.invokevirtual 200, 3) := by decide +kernel
theorem dX8_place_5 : decode cX8_place 5 = .ok (.ifCond .eq 10, 3) := by decide +kernel
theorem dX8_place_8 : decode cX8_place 8 = .ok (.iload_n 2, 1) := by decide +kernel
theorem dX8_place_9 : decode cX8_place 9 = .ok (.invokestatic 106, 3) := by decide +kernel
theorem dX8_place_12 : decode cX8_place 12 = .ok (.ifCond .ne 5, 3) := by decide +kernel
theorem dX8_place_15 : decode cX8_place 15 = .ok (.lconst 0, 1) := by decide +kernel
theorem dX8_place_16 : decode cX8_place 16 = .ok (.lreturn, 1) := by decide +kernel
theorem dX8_place_17 : decode cX8_place 17 = .ok (.aload_n 0, 1) := by decide +kernel
theorem dX8_place_18 : decode cX8_place 18 = .ok (.iload_n 1, 1) := by decide +kernel
theorem dX8_place_19 : decode cX8_place 19 = .ok (.aload_n 0, 1) := by decide +kernel
theorem dX8_place_20 : decode cX8_place 20 = .ok (.getfield 17, 3) := by decide +kernel
theorem dX8_place_23 : decode cX8_place 23 = .ok (.iload_n 2, 1) := by decide +kernel
theorem dX8_place_24 : decode cX8_place 24 = .ok (.laload, 1) := by decide +kernel
theorem dX8_place_25 : decode cX8_place 25 = .ok (.invokevirtual 203, 3) := by decide +kernel
theorem dX8_place_28 : decode cX8_place 28 = .ok (.aload_n 0, 1) := by decide +kernel
theorem dX8_place_29 : decode cX8_place 29 = .ok (.getfield 42, 3) := by decide +kernel
theorem dX8_place_32 : decode cX8_place 32 = .ok (.iload_n 1, 1) := by decide +kernel
theorem dX8_place_33 : decode cX8_place 33 = .ok (.iaload, 1) := by decide +kernel
theorem dX8_place_34 : decode cX8_place 34 = .ok (.ifCond .ne 7, 3) := by decide +kernel
theorem dX8_place_37 : decode cX8_place 37 = .ok (.lconst 0, 1) := by decide +kernel
theorem dX8_place_38 : decode cX8_place 38 = .ok (.goto 13, 3) := by decide +kernel
theorem dX8_place_41 : decode cX8_place 41 = .ok (.aload_n 0, 1) := by decide +kernel
theorem dX8_place_42 : decode cX8_place 42 = .ok (.getfield 39, 3) := by decide +kernel
theorem dX8_place_45 : decode cX8_place 45 = .ok (.sipush 400, 3) := by decide +kernel
theorem dX8_place_48 : decode cX8_place 48 = .ok (.iload_n 1, 1) := by decide +kernel
theorem dX8_place_49 : decode cX8_place 49 = .ok (.imul, 1) := by decide +kernel
theorem dX8_place_50 : decode cX8_place 50 = .ok (.laload, 1) := by decide +kernel
theorem dX8_place_51 : decode cX8_place 51 = .ok (.lreturn, 1) := by decide +kernel
theorem dX8_leftBy_0 : decode cX8_leftBy 0 = .ok (.lload_n 1, 1) := by decide +kernel
theorem dX8_leftBy_1 : decode cX8_leftBy 1 = .ok (.lstore 4, 2) := by decide +kernel
theorem dX8_leftBy_3 : decode cX8_leftBy 3 = .ok (.iconst 0, 1) := by decide +kernel
theorem dX8_leftBy_4 : decode cX8_leftBy 4 = .ok (.istore 6, 2) := by decide +kernel
theorem dX8_leftBy_6 : decode cX8_leftBy 6 = .ok (.iload 6, 2) := by decide +kernel
theorem dX8_leftBy_8 : decode cX8_leftBy 8 = .ok (.iload_n 3, 1) := by decide +kernel
theorem dX8_leftBy_9 : decode cX8_leftBy 9 = .ok (.if_icmp .ge 37, 3) := by decide +kernel
theorem dX8_leftBy_12 : decode cX8_leftBy 12 = .ok (.lload 4, 2) := by decide +kernel
theorem dX8_leftBy_14 : decode cX8_leftBy 14 = .ok (.aload_n 0, 1) := by decide +kernel
theorem dX8_leftBy_15 : decode cX8_leftBy 15 = .ok (.getfield 39, 3) := by decide +kernel
theorem dX8_leftBy_18 : decode cX8_leftBy 18 = .ok (.sipush 400, 3) := by decide +kernel
theorem dX8_leftBy_21 : decode cX8_leftBy 21 = .ok (.iload 6, 2) := by decide +kernel
theorem dX8_leftBy_23 : decode cX8_leftBy 23 = .ok (.imul, 1) := by decide +kernel
theorem dX8_leftBy_24 : decode cX8_leftBy 24 = .ok (.aload_n 0, 1) := by decide +kernel
theorem dX8_leftBy_25 : decode cX8_leftBy 25 = .ok (.getfield 45, 3) := by decide +kernel
theorem dX8_leftBy_28 : decode cX8_leftBy 28 = .ok (.iload 6, 2) := by decide +kernel
theorem dX8_leftBy_30 : decode cX8_leftBy 30 = .ok (.iaload, 1) := by decide +kernel
theorem dX8_leftBy_31 : decode cX8_leftBy 31 = .ok (.iadd, 1) := by decide +kernel
theorem dX8_leftBy_32 : decode cX8_leftBy 32 = .ok (.laload, 1) := by decide +kernel
theorem dX8_leftBy_33 : decode cX8_leftBy 33 = .ok (.ldc2_w 118, 3) := by decide +kernel
theorem dX8_leftBy_36 : decode cX8_leftBy 36 = .ok (.lxor, 1) := by decide +kernel
theorem dX8_leftBy_37 : decode cX8_leftBy 37 = .ok (.land, 1) := by decide +kernel
theorem dX8_leftBy_38 : decode cX8_leftBy 38 = .ok (.lstore 4, 2) := by decide +kernel
theorem dX8_leftBy_40 : decode cX8_leftBy 40 = .ok (.iinc 6 1, 3) := by decide +kernel
theorem dX8_leftBy_43 : decode cX8_leftBy 43 = .ok (.goto (-37), 3) := by decide +kernel
theorem dX8_leftBy_46 : decode cX8_leftBy 46 = .ok (.lload 4, 2) := by decide +kernel
theorem dX8_leftBy_48 : decode cX8_leftBy 48 = .ok (.lreturn, 1) := by decide +kernel
set_option maxRecDepth 20000 in
theorem ggX8_layWays_X8_layPlaces : GoodIn wsX8_layWays wsX8_layPlaces := goodIn_r _ [12, 2, 13, 5, 14, 15, 7, 6, 16, 17, 18, 11, 19, 20, 21, 22, 23, 24, 25, 26, 27, 28, 29, 30, 31, 32, 33, 34, 35, 36, 37, 38, 39, 40, 41, 42, 43, 44, 45, 46, 54, 55, 56, 57, 58, 59, 60, 61, 62, 63, 64, 65, 66, 67, 68, 69, 70, 71, 72, 73, 74, 75, 76] (by decide +kernel) (by decide +kernel)
set_option maxRecDepth 20000 in
theorem gX8_layWays_X8_layPlaces : GoodIn wsX8_layWays (wsV RX8 203 RX8 yX8_layPlaces wsX8_layPlaces) := goodIn_app (goodIn_of _ (by decide +kernel)) ggX8_layWays_X8_layPlaces
set_option maxRecDepth 20000 in
theorem ggX8_layWays_X8_ones : GoodIn wsX8_layWays wsX8_ones := goodIn_r _ [49] (by decide +kernel) (by decide +kernel)
set_option maxRecDepth 20000 in
theorem gX8_layWays_X8_ones : GoodIn wsX8_layWays (va_wsS RX8 110 yX8_ones wsX8_ones) := goodIn_app (goodIn_of _ (by decide +kernel)) ggX8_layWays_X8_ones
set_option maxRecDepth 20000 in
theorem ggX8_layWays_X8_leftBy : GoodIn wsX8_layWays wsX8_leftBy := goodIn_r _ [53, 6, 4, 7, 54, 55, 56, 57, 58, 59, 60, 61, 62, 63, 64, 65, 66, 67, 68, 69, 70, 71, 72, 73, 74, 75, 76] (by decide +kernel) (by decide +kernel)
set_option maxRecDepth 20000 in
theorem gX8_layWays_X8_leftBy : GoodIn wsX8_layWays (wsV RX8 207 RX8 yX8_leftBy wsX8_leftBy) := goodIn_app (goodIn_of _ (by decide +kernel)) ggX8_layWays_X8_leftBy
theorem dX8_layWays_0 : decode cX8_layWays 0 = .ok (.iconst 0, 1) := by decide +kernel
theorem dX8_layWays_1 : decode cX8_layWays 1 = .ok (.istore_n 3, 1) := by decide +kernel
theorem dX8_layWays_2 : decode cX8_layWays 2 = .ok (.iconst 0, 1) := by decide +kernel
theorem dX8_layWays_3 : decode cX8_layWays 3 = .ok (.istore 4, 2) := by decide +kernel
theorem dX8_layWays_5 : decode cX8_layWays 5 = .ok (.iload 4, 2) := by decide +kernel
theorem dX8_layWays_7 : decode cX8_layWays 7 = .ok (.aload_n 0, 1) := by decide +kernel
theorem dX8_layWays_8 : decode cX8_layWays 8 = .ok (.getfield 197, 3) := by decide +kernel
theorem dX8_layWays_11 : decode cX8_layWays 11 = .ok (.if_icmp .ge 37, 3) := by decide +kernel
theorem dX8_layWays_14 : decode cX8_layWays 14 = .ok (.aload_n 0, 1) := by decide +kernel
theorem dX8_layWays_15 : decode cX8_layWays 15 = .ok (.iload 4, 2) := by decide +kernel
theorem dX8_layWays_17 : decode cX8_layWays 17 = .ok (.lload_n 1, 1) := by decide +kernel
theorem dX8_layWays_18 : decode cX8_layWays 18 = .ok (.invokevirtual 203, 3) := by decide +kernel
theorem dX8_layWays_21 : decode cX8_layWays 21 = .ok (.iload_n 3, 1) := by decide +kernel
theorem dX8_layWays_22 : decode cX8_layWays 22 = .ok (.aload_n 0, 1) := by decide +kernel
theorem dX8_layWays_23 : decode cX8_layWays 23 = .ok (.getfield 33, 3) := by decide +kernel
theorem dX8_layWays_26 : decode cX8_layWays 26 = .ok (.iload 4, 2) := by decide +kernel
theorem dX8_layWays_28 : decode cX8_layWays 28 = .ok (.laload, 1) := by decide +kernel
theorem dX8_layWays_29 : decode cX8_layWays 29 = .ok (.invokestatic 110, 3) := by decide +kernel
theorem dX8_layWays_32 : decode cX8_layWays 32 = .ok (.iadd, 1) := by decide +kernel
theorem dX8_layWays_33 : decode cX8_layWays 33 = .ok (.istore_n 3, 1) := by decide +kernel
theorem dX8_layWays_34 : decode cX8_layWays 34 = .ok (.aload_n 0, 1) := by decide +kernel
theorem dX8_layWays_35 : decode cX8_layWays 35 = .ok (.getfield 48, 3) := by decide +kernel
theorem dX8_layWays_38 : decode cX8_layWays 38 = .ok (.iload 4, 2) := by decide +kernel
theorem dX8_layWays_40 : decode cX8_layWays 40 = .ok (.lconst 0, 1) := by decide +kernel
theorem dX8_layWays_41 : decode cX8_layWays 41 = .ok (.lastore, 1) := by decide +kernel
theorem dX8_layWays_42 : decode cX8_layWays 42 = .ok (.iinc 4 1, 3) := by decide +kernel
theorem dX8_layWays_45 : decode cX8_layWays 45 = .ok (.goto (-40), 3) := by decide +kernel
theorem dX8_layWays_48 : decode cX8_layWays 48 = .ok (.aload_n 0, 1) := by decide +kernel
theorem dX8_layWays_49 : decode cX8_layWays 49 = .ok (.getfield 197, 3) := by decide +kernel
theorem dX8_layWays_52 : decode cX8_layWays 52 = .ok (.ifCond .eq 11, 3) := by decide +kernel
theorem dX8_layWays_55 : decode cX8_layWays 55 = .ok (.iload_n 3, 1) := by decide +kernel
theorem dX8_layWays_56 : decode cX8_layWays 56 = .ok (.lload_n 1, 1) := by decide +kernel
theorem dX8_layWays_57 : decode cX8_layWays 57 = .ok (.invokestatic 110, 3) := by decide +kernel
theorem dX8_layWays_60 : decode cX8_layWays 60 = .ok (.if_icmp .eq 22, 3) := by decide +kernel
theorem dX8_layWays_63 : decode cX8_layWays 63 = .ok (.lload_n 1, 1) := by decide +kernel
theorem dX8_layWays_64 : decode cX8_layWays 64 = .ok (.lconst 0, 1) := by decide +kernel
theorem dX8_layWays_65 : decode cX8_layWays 65 = .ok (.lcmp, 1) := by decide +kernel
theorem dX8_layWays_66 : decode cX8_layWays 66 = .ok (.ifCond .ne 14, 3) := by decide +kernel
theorem dX8_layWays_69 : decode cX8_layWays 69 = .ok (.aload_n 0, 1) := by decide +kernel
theorem dX8_layWays_70 : decode cX8_layWays 70 = .ok (.getfield 197, 3) := by decide +kernel
theorem dX8_layWays_73 : decode cX8_layWays 73 = .ok (.ifCond .ne 7, 3) := by decide +kernel
theorem dX8_layWays_76 : decode cX8_layWays 76 = .ok (.iconst 1, 1) := by decide +kernel
theorem dX8_layWays_77 : decode cX8_layWays 77 = .ok (.goto 4, 3) := by decide +kernel
theorem dX8_layWays_80 : decode cX8_layWays 80 = .ok (.iconst 0, 1) := by decide +kernel
theorem dX8_layWays_81 : decode cX8_layWays 81 = .ok (.ireturn, 1) := by decide +kernel
theorem dX8_layWays_82 : decode cX8_layWays 82 = .ok (.iconst 0, 1) := by decide +kernel
theorem dX8_layWays_83 : decode cX8_layWays 83 = .ok (.istore 4, 2) := by decide +kernel
theorem dX8_layWays_85 : decode cX8_layWays 85 = .ok (.iconst 0, 1) := by decide +kernel
theorem dX8_layWays_86 : decode cX8_layWays 86 = .ok (.istore 5, 2) := by decide +kernel
theorem dX8_layWays_88 : decode cX8_layWays 88 = .ok (.aload_n 0, 1) := by decide +kernel
theorem dX8_layWays_89 : decode cX8_layWays 89 = .ok (.getfield 45, 3) := by decide +kernel
theorem dX8_layWays_92 : decode cX8_layWays 92 = .ok (.iconst 0, 1) := by decide +kernel
theorem dX8_layWays_93 : decode cX8_layWays 93 = .ok (.iconst 0, 1) := by decide +kernel
theorem dX8_layWays_94 : decode cX8_layWays 94 = .ok (.iastore, 1) := by decide +kernel
theorem dX8_layWays_95 : decode cX8_layWays 95 = .ok (.iload 5, 2) := by decide +kernel
theorem dX8_layWays_97 : decode cX8_layWays 97 = .ok (.ifCond .lt 204, 3) := by decide +kernel
theorem dX8_layWays_100 : decode cX8_layWays 100 = .ok (.aload_n 0, 1) := by decide +kernel
theorem dX8_layWays_101 : decode cX8_layWays 101 = .ok (.lload_n 1, 1) := by decide +kernel
theorem dX8_layWays_102 : decode cX8_layWays 102 = .ok (.iload 5, 2) := by decide +kernel
theorem dX8_layWays_104 : decode cX8_layWays 104 = .ok (.invokevirtual 207, 3) := by decide +kernel
theorem dX8_layWays_107 : decode cX8_layWays 107 = .ok (.lstore 6, 2) := by decide +kernel
theorem dX8_layWays_109 : decode cX8_layWays 109 = .ok (.aload_n 0, 1) := by decide +kernel
theorem dX8_layWays_110 : decode cX8_layWays 110 = .ok (.getfield 45, 3) := by decide +kernel
theorem dX8_layWays_113 : decode cX8_layWays 113 = .ok (.iload 5, 2) := by decide +kernel
theorem dX8_layWays_115 : decode cX8_layWays 115 = .ok (.iaload, 1) := by decide +kernel
theorem dX8_layWays_116 : decode cX8_layWays 116 = .ok (.aload_n 0, 1) := by decide +kernel
theorem dX8_layWays_117 : decode cX8_layWays 117 = .ok (.getfield 42, 3) := by decide +kernel
theorem dX8_layWays_120 : decode cX8_layWays 120 = .ok (.iload 5, 2) := by decide +kernel
theorem dX8_layWays_122 : decode cX8_layWays 122 = .ok (.iaload, 1) := by decide +kernel
theorem dX8_layWays_123 : decode cX8_layWays 123 = .ok (.if_icmp .ge 48, 3) := by decide +kernel
theorem dX8_layWays_126 : decode cX8_layWays 126 = .ok (.aload_n 0, 1) := by decide +kernel
theorem dX8_layWays_127 : decode cX8_layWays 127 = .ok (.getfield 39, 3) := by decide +kernel
theorem dX8_layWays_130 : decode cX8_layWays 130 = .ok (.sipush 400, 3) := by decide +kernel
theorem dX8_layWays_133 : decode cX8_layWays 133 = .ok (.iload 5, 2) := by decide +kernel
theorem dX8_layWays_135 : decode cX8_layWays 135 = .ok (.imul, 1) := by decide +kernel
theorem dX8_layWays_136 : decode cX8_layWays 136 = .ok (.aload_n 0, 1) := by decide +kernel
theorem dX8_layWays_137 : decode cX8_layWays 137 = .ok (.getfield 45, 3) := by decide +kernel
theorem dX8_layWays_140 : decode cX8_layWays 140 = .ok (.iload 5, 2) := by decide +kernel
theorem dX8_layWays_142 : decode cX8_layWays 142 = .ok (.iaload, 1) := by decide +kernel
theorem dX8_layWays_143 : decode cX8_layWays 143 = .ok (.iadd, 1) := by decide +kernel
theorem dX8_layWays_144 : decode cX8_layWays 144 = .ok (.laload, 1) := by decide +kernel
theorem dX8_layWays_145 : decode cX8_layWays 145 = .ok (.lload 6, 2) := by decide +kernel
theorem dX8_layWays_147 : decode cX8_layWays 147 = .ok (.ldc2_w 118, 3) := by decide +kernel
theorem dX8_layWays_150 : decode cX8_layWays 150 = .ok (.lxor, 1) := by decide +kernel
theorem dX8_layWays_151 : decode cX8_layWays 151 = .ok (.land, 1) := by decide +kernel
theorem dX8_layWays_152 : decode cX8_layWays 152 = .ok (.lconst 0, 1) := by decide +kernel
theorem dX8_layWays_153 : decode cX8_layWays 153 = .ok (.lcmp, 1) := by decide +kernel
theorem dX8_layWays_154 : decode cX8_layWays 154 = .ok (.ifCond .eq 17, 3) := by decide +kernel
theorem dX8_layWays_157 : decode cX8_layWays 157 = .ok (.aload_n 0, 1) := by decide +kernel
theorem dX8_layWays_158 : decode cX8_layWays 158 = .ok (.getfield 45, 3) := by decide +kernel
theorem dX8_layWays_161 : decode cX8_layWays 161 = .ok (.iload 5, 2) := by decide +kernel
theorem dX8_layWays_163 : decode cX8_layWays 163 = .ok (.dup2, 1) := by decide +kernel
theorem dX8_layWays_164 : decode cX8_layWays 164 = .ok (.iaload, 1) := by decide +kernel
theorem dX8_layWays_165 : decode cX8_layWays 165 = .ok (.iconst 1, 1) := by decide +kernel
theorem dX8_layWays_166 : decode cX8_layWays 166 = .ok (.iadd, 1) := by decide +kernel
theorem dX8_layWays_167 : decode cX8_layWays 167 = .ok (.iastore, 1) := by decide +kernel
theorem dX8_layWays_168 : decode cX8_layWays 168 = .ok (.goto (-59), 3) := by decide +kernel
theorem dX8_layWays_171 : decode cX8_layWays 171 = .ok (.aload_n 0, 1) := by decide +kernel
theorem dX8_layWays_172 : decode cX8_layWays 172 = .ok (.getfield 45, 3) := by decide +kernel
theorem dX8_layWays_175 : decode cX8_layWays 175 = .ok (.iload 5, 2) := by decide +kernel
theorem dX8_layWays_177 : decode cX8_layWays 177 = .ok (.iaload, 1) := by decide +kernel
theorem dX8_layWays_178 : decode cX8_layWays 178 = .ok (.aload_n 0, 1) := by decide +kernel
theorem dX8_layWays_179 : decode cX8_layWays 179 = .ok (.getfield 42, 3) := by decide +kernel
theorem dX8_layWays_182 : decode cX8_layWays 182 = .ok (.iload 5, 2) := by decide +kernel
theorem dX8_layWays_184 : decode cX8_layWays 184 = .ok (.iaload, 1) := by decide +kernel
theorem dX8_layWays_185 : decode cX8_layWays 185 = .ok (.if_icmp .ne 25, 3) := by decide +kernel
theorem dX8_layWays_188 : decode cX8_layWays 188 = .ok (.iinc 5 (-1), 3) := by decide +kernel
theorem dX8_layWays_191 : decode cX8_layWays 191 = .ok (.iload 5, 2) := by decide +kernel
theorem dX8_layWays_193 : decode cX8_layWays 193 = .ok (.ifCond .lt 105, 3) := by decide +kernel
theorem dX8_layWays_196 : decode cX8_layWays 196 = .ok (.aload_n 0, 1) := by decide +kernel
theorem dX8_layWays_197 : decode cX8_layWays 197 = .ok (.getfield 45, 3) := by decide +kernel
theorem dX8_layWays_200 : decode cX8_layWays 200 = .ok (.iload 5, 2) := by decide +kernel
theorem dX8_layWays_202 : decode cX8_layWays 202 = .ok (.dup2, 1) := by decide +kernel
theorem dX8_layWays_203 : decode cX8_layWays 203 = .ok (.iaload, 1) := by decide +kernel
theorem dX8_layWays_204 : decode cX8_layWays 204 = .ok (.iconst 1, 1) := by decide +kernel
theorem dX8_layWays_205 : decode cX8_layWays 205 = .ok (.iadd, 1) := by decide +kernel
theorem dX8_layWays_206 : decode cX8_layWays 206 = .ok (.iastore, 1) := by decide +kernel
theorem dX8_layWays_207 : decode cX8_layWays 207 = .ok (.goto 91, 3) := by decide +kernel
theorem dX8_layWays_210 : decode cX8_layWays 210 = .ok (.iload 5, 2) := by decide +kernel
theorem dX8_layWays_212 : decode cX8_layWays 212 = .ok (.aload_n 0, 1) := by decide +kernel
theorem dX8_layWays_213 : decode cX8_layWays 213 = .ok (.getfield 197, 3) := by decide +kernel
theorem dX8_layWays_216 : decode cX8_layWays 216 = .ok (.iconst 1, 1) := by decide +kernel
theorem dX8_layWays_217 : decode cX8_layWays 217 = .ok (.isub, 1) := by decide +kernel
theorem dX8_layWays_218 : decode cX8_layWays 218 = .ok (.if_icmp .ne 69, 3) := by decide +kernel
theorem dX8_layWays_221 : decode cX8_layWays 221 = .ok (.iconst 0, 1) := by decide +kernel
theorem dX8_layWays_222 : decode cX8_layWays 222 = .ok (.istore 8, 2) := by decide +kernel
theorem dX8_layWays_224 : decode cX8_layWays 224 = .ok (.iload 8, 2) := by decide +kernel
theorem dX8_layWays_226 : decode cX8_layWays 226 = .ok (.aload_n 0, 1) := by decide +kernel
theorem dX8_layWays_227 : decode cX8_layWays 227 = .ok (.getfield 197, 3) := by decide +kernel
theorem dX8_layWays_230 : decode cX8_layWays 230 = .ok (.if_icmp .ge 40, 3) := by decide +kernel
theorem dX8_layWays_233 : decode cX8_layWays 233 = .ok (.iload 4, 2) := by decide +kernel
theorem dX8_layWays_235 : decode cX8_layWays 235 = .ok (.ifCond .ne 35, 3) := by decide +kernel
theorem dX8_layWays_238 : decode cX8_layWays 238 = .ok (.aload_n 0, 1) := by decide +kernel
theorem dX8_layWays_239 : decode cX8_layWays 239 = .ok (.getfield 48, 3) := by decide +kernel
theorem dX8_layWays_242 : decode cX8_layWays 242 = .ok (.iload 8, 2) := by decide +kernel
theorem dX8_layWays_244 : decode cX8_layWays 244 = .ok (.aload_n 0, 1) := by decide +kernel
theorem dX8_layWays_245 : decode cX8_layWays 245 = .ok (.getfield 39, 3) := by decide +kernel
theorem dX8_layWays_248 : decode cX8_layWays 248 = .ok (.sipush 400, 3) := by decide +kernel
theorem dX8_layWays_251 : decode cX8_layWays 251 = .ok (.iload 8, 2) := by decide +kernel
theorem dX8_layWays_253 : decode cX8_layWays 253 = .ok (.imul, 1) := by decide +kernel
theorem dX8_layWays_254 : decode cX8_layWays 254 = .ok (.aload_n 0, 1) := by decide +kernel
theorem dX8_layWays_255 : decode cX8_layWays 255 = .ok (.getfield 45, 3) := by decide +kernel
theorem dX8_layWays_258 : decode cX8_layWays 258 = .ok (.iload 8, 2) := by decide +kernel
theorem dX8_layWays_260 : decode cX8_layWays 260 = .ok (.iaload, 1) := by decide +kernel
theorem dX8_layWays_261 : decode cX8_layWays 261 = .ok (.iadd, 1) := by decide +kernel
theorem dX8_layWays_262 : decode cX8_layWays 262 = .ok (.laload, 1) := by decide +kernel
theorem dX8_layWays_263 : decode cX8_layWays 263 = .ok (.lastore, 1) := by decide +kernel
theorem dX8_layWays_264 : decode cX8_layWays 264 = .ok (.iinc 8 1, 3) := by decide +kernel
theorem dX8_layWays_267 : decode cX8_layWays 267 = .ok (.goto (-43), 3) := by decide +kernel
theorem dX8_layWays_270 : decode cX8_layWays 270 = .ok (.iinc 4 1, 3) := by decide +kernel
theorem dX8_layWays_273 : decode cX8_layWays 273 = .ok (.aload_n 0, 1) := by decide +kernel
theorem dX8_layWays_274 : decode cX8_layWays 274 = .ok (.getfield 45, 3) := by decide +kernel
theorem dX8_layWays_277 : decode cX8_layWays 277 = .ok (.iload 5, 2) := by decide +kernel
theorem dX8_layWays_279 : decode cX8_layWays 279 = .ok (.dup2, 1) := by decide +kernel
theorem dX8_layWays_280 : decode cX8_layWays 280 = .ok (.iaload, 1) := by decide +kernel
theorem dX8_layWays_281 : decode cX8_layWays 281 = .ok (.iconst 1, 1) := by decide +kernel
theorem dX8_layWays_282 : decode cX8_layWays 282 = .ok (.iadd, 1) := by decide +kernel
theorem dX8_layWays_283 : decode cX8_layWays 283 = .ok (.iastore, 1) := by decide +kernel
theorem dX8_layWays_284 : decode cX8_layWays 284 = .ok (.goto 14, 3) := by decide +kernel
theorem dX8_layWays_287 : decode cX8_layWays 287 = .ok (.iinc 5 1, 3) := by decide +kernel
theorem dX8_layWays_290 : decode cX8_layWays 290 = .ok (.aload_n 0, 1) := by decide +kernel
theorem dX8_layWays_291 : decode cX8_layWays 291 = .ok (.getfield 45, 3) := by decide +kernel
theorem dX8_layWays_294 : decode cX8_layWays 294 = .ok (.iload 5, 2) := by decide +kernel
theorem dX8_layWays_296 : decode cX8_layWays 296 = .ok (.iconst 0, 1) := by decide +kernel
theorem dX8_layWays_297 : decode cX8_layWays 297 = .ok (.iastore, 1) := by decide +kernel
theorem dX8_layWays_298 : decode cX8_layWays 298 = .ok (.goto (-203), 3) := by decide +kernel
theorem dX8_layWays_301 : decode cX8_layWays 301 = .ok (.iload 4, 2) := by decide +kernel
theorem dX8_layWays_303 : decode cX8_layWays 303 = .ok (.ireturn, 1) := by decide +kernel
set_option maxRecDepth 20000 in
theorem ggX8_ways_X8_isFigure : GoodIn wsX8_ways wsX8_isFigure := goodIn_r _ [5, 6, 7, 8, 4, 9] (by decide +kernel) (by decide +kernel)
set_option maxRecDepth 20000 in
theorem gX8_ways_X8_isFigure : GoodIn wsX8_ways (va_wsS RX8 106 yX8_isFigure wsX8_isFigure) := goodIn_app (goodIn_of _ (by decide +kernel)) ggX8_ways_X8_isFigure
set_option maxRecDepth 20000 in
theorem ggX8_ways_X8_layWays : GoodIn wsX8_ways wsX8_layWays := goodIn_r _ [13, 14, 15, 16, 17, 18, 19, 20, 21, 22, 23, 4, 24, 25, 26, 27, 28, 29, 30, 31, 32, 33, 34, 35, 36, 37, 38, 39, 40, 41, 42, 43, 44, 7, 8, 9, 45, 46, 47, 48, 49, 50, 51, 52, 53, 54, 55, 56, 57, 58, 59, 60, 61, 62, 63, 64, 65, 66, 67, 68, 69, 70, 71, 72, 73, 74, 75, 76, 77, 78, 79, 80, 81, 82, 83, 84, 85] (by decide +kernel) (by decide +kernel)
set_option maxRecDepth 20000 in
theorem gX8_ways_X8_layWays : GoodIn wsX8_ways (wsV RX8 210 RX8 yX8_layWays wsX8_layWays) := goodIn_app (goodIn_of _ (by decide +kernel)) ggX8_ways_X8_layWays
theorem dX8_ways_0 : decode cX8_ways 0 = .ok (.iload_n 1, 1) := by decide +kernel
theorem dX8_ways_1 : decode cX8_ways 1 = .ok (.invokestatic 106, 3) := by decide +kernel
theorem dX8_ways_4 : decode cX8_ways 4 = .ok (.ifCond .eq 16, 3) := by decide +kernel
theorem dX8_ways_7 : decode cX8_ways 7 = .ok (.aload_n 0, 1) := by decide +kernel
theorem dX8_ways_8 : decode cX8_ways 8 = .ok (.aload_n 0, 1) := by decide +kernel
theorem dX8_ways_9 : decode cX8_ways 9 = .ok (.getfield 17, 3) := by decide +kernel
theorem dX8_ways_12 : decode cX8_ways 12 = .ok (.iload_n 1, 1) := by decide +kernel
theorem dX8_ways_13 : decode cX8_ways 13 = .ok (.laload, 1) := by decide +kernel
theorem dX8_ways_14 : decode cX8_ways 14 = .ok (.invokevirtual 210, 3) := by decide +kernel
theorem dX8_ways_17 : decode cX8_ways 17 = .ok (.goto 4, 3) := by decide +kernel
theorem dX8_ways_20 : decode cX8_ways 20 = .ok (.iconst (-1), 1) := by decide +kernel
theorem dX8_ways_21 : decode cX8_ways 21 = .ok (.ireturn, 1) := by decide +kernel
set_option maxRecDepth 20000 in
theorem ggX8_first_X8_isFigure : GoodIn wsX8_first wsX8_isFigure := goodIn_r _ [6, 7, 8, 9, 5, 10] (by decide +kernel) (by decide +kernel)
set_option maxRecDepth 20000 in
theorem gX8_first_X8_isFigure : GoodIn wsX8_first (va_wsS RX8 106 yX8_isFigure wsX8_isFigure) := goodIn_app (goodIn_of _ (by decide +kernel)) ggX8_first_X8_isFigure
set_option maxRecDepth 20000 in
theorem ggX8_first_X8_isPiece : GoodIn wsX8_first wsX8_isPiece := goodIn_r _ [14, 15, 8, 9, 5, 10, 67, 68, 69, 70, 71, 72, 73, 74, 75, 76, 77, 78, 79, 80, 81, 82, 83, 84, 85, 86, 87, 88, 89] (by decide +kernel) (by decide +kernel)
set_option maxRecDepth 20000 in
theorem gX8_first_X8_isPiece : GoodIn wsX8_first (wsV RX8 200 RX8 yX8_isPiece wsX8_isPiece) := goodIn_app (goodIn_of _ (by decide +kernel)) ggX8_first_X8_isPiece
set_option maxRecDepth 20000 in
theorem ggX8_first_X8_layWays : GoodIn wsX8_first wsX8_layWays := goodIn_r _ [19, 15, 20, 2, 21, 22, 23, 24, 25, 26, 27, 5, 28, 29, 30, 31, 32, 33, 34, 35, 36, 37, 38, 39, 40, 41, 42, 43, 44, 45, 46, 47, 48, 8, 9, 10, 49, 50, 51, 52, 53, 54, 55, 56, 57, 58, 59, 60, 61, 62, 63, 64, 65, 66, 67, 68, 69, 70, 71, 72, 73, 74, 75, 76, 77, 78, 79, 80, 81, 82, 83, 84, 85, 86, 87, 88, 89] (by decide +kernel) (by decide +kernel)
set_option maxRecDepth 20000 in
theorem gX8_first_X8_layWays : GoodIn wsX8_first (wsV RX8 210 RX8 yX8_layWays wsX8_layWays) := goodIn_app (goodIn_of _ (by decide +kernel)) ggX8_first_X8_layWays
theorem dX8_first_0 : decode cX8_first 0 = .ok (.iload_n 1, 1) := by decide +kernel
theorem dX8_first_1 : decode cX8_first 1 = .ok (.invokestatic 106, 3) := by decide +kernel
theorem dX8_first_4 : decode cX8_first 4 = .ok (.ifCond .eq 11, 3) := by decide +kernel
theorem dX8_first_7 : decode cX8_first 7 = .ok (.aload_n 0, 1) := by decide +kernel
theorem dX8_first_8 : decode cX8_first 8 = .ok (.iload_n 2, 1) := by decide +kernel
theorem dX8_first_9 : decode cX8_first 9 = .ok (.invokevirtual 200, 3) := by decide +kernel
theorem dX8_first_12 : decode cX8_first 12 = .ok (.ifCond .ne 5, 3) := by decide +kernel
theorem dX8_first_15 : decode cX8_first 15 = .ok (.lconst 0, 1) := by decide +kernel
theorem dX8_first_16 : decode cX8_first 16 = .ok (.lreturn, 1) := by decide +kernel
theorem dX8_first_17 : decode cX8_first 17 = .ok (.aload_n 0, 1) := by decide +kernel
theorem dX8_first_18 : decode cX8_first 18 = .ok (.aload_n 0, 1) := by decide +kernel
theorem dX8_first_19 : decode cX8_first 19 = .ok (.getfield 17, 3) := by decide +kernel
theorem dX8_first_22 : decode cX8_first 22 = .ok (.iload_n 1, 1) := by decide +kernel
theorem dX8_first_23 : decode cX8_first 23 = .ok (.laload, 1) := by decide +kernel
theorem dX8_first_24 : decode cX8_first 24 = .ok (.invokevirtual 210, 3) := by decide +kernel
theorem dX8_first_27 : decode cX8_first 27 = .ok (.ifCond .le 12, 3) := by decide +kernel
theorem dX8_first_30 : decode cX8_first 30 = .ok (.aload_n 0, 1) := by decide +kernel
theorem dX8_first_31 : decode cX8_first 31 = .ok (.getfield 48, 3) := by decide +kernel
theorem dX8_first_34 : decode cX8_first 34 = .ok (.iload_n 2, 1) := by decide +kernel
theorem dX8_first_35 : decode cX8_first 35 = .ok (.laload, 1) := by decide +kernel
theorem dX8_first_36 : decode cX8_first 36 = .ok (.goto 4, 3) := by decide +kernel
theorem dX8_first_39 : decode cX8_first 39 = .ok (.lconst 0, 1) := by decide +kernel
theorem dX8_first_40 : decode cX8_first 40 = .ok (.lreturn, 1) := by decide +kernel
set_option maxRecDepth 20000 in
theorem ggX8_idle_X8_isFigure : GoodIn wsX8_idle wsX8_isFigure := goodIn_r _ [7, 8, 9, 10, 6, 11] (by decide +kernel) (by decide +kernel)
set_option maxRecDepth 20000 in
theorem gX8_idle_X8_isFigure : GoodIn wsX8_idle (va_wsS RX8 106 yX8_isFigure wsX8_isFigure) := goodIn_app (goodIn_of _ (by decide +kernel)) ggX8_idle_X8_isFigure
set_option maxRecDepth 20000 in
theorem ggX8_idle_X8_layPlaces : GoodIn wsX8_idle wsX8_layPlaces := goodIn_r _ [15, 16, 17, 3, 18, 19, 20, 21, 22, 23, 24, 6, 25, 26, 27, 28, 29, 30, 31, 32, 33, 34, 35, 36, 37, 38, 9, 10, 11, 39, 40, 41, 42, 43, 44, 45, 46, 47, 48, 49, 50, 51, 52, 53, 54, 55, 56, 57, 58, 59, 60, 61, 62, 63, 64, 65, 66, 67, 68, 69, 70, 71, 72] (by decide +kernel) (by decide +kernel)
set_option maxRecDepth 20000 in
theorem gX8_idle_X8_layPlaces : GoodIn wsX8_idle (wsV RX8 203 RX8 yX8_layPlaces wsX8_layPlaces) := goodIn_app (goodIn_of _ (by decide +kernel)) ggX8_idle_X8_layPlaces
theorem dX8_idle_0 : decode cX8_idle 0 = .ok (.iload_n 1, 1) := by decide +kernel
theorem dX8_idle_1 : decode cX8_idle 1 = .ok (.invokestatic 106, 3) := by decide +kernel
theorem dX8_idle_4 : decode cX8_idle 4 = .ok (.ifCond .ne 5, 3) := by decide +kernel
theorem dX8_idle_7 : decode cX8_idle 7 = .ok (.iconst (-1), 1) := by decide +kernel
theorem dX8_idle_8 : decode cX8_idle 8 = .ok (.ireturn, 1) := by decide +kernel
theorem dX8_idle_9 : decode cX8_idle 9 = .ok (.iconst 0, 1) := by decide +kernel
theorem dX8_idle_10 : decode cX8_idle 10 = .ok (.istore_n 2, 1) := by decide +kernel
theorem dX8_idle_11 : decode cX8_idle 11 = .ok (.iconst 0, 1) := by decide +kernel
theorem dX8_idle_12 : decode cX8_idle 12 = .ok (.istore_n 3, 1) := by decide +kernel
theorem dX8_idle_13 : decode cX8_idle 13 = .ok (.iload_n 3, 1) := by decide +kernel
theorem dX8_idle_14 : decode cX8_idle 14 = .ok (.aload_n 0, 1) := by decide +kernel
theorem dX8_idle_15 : decode cX8_idle 15 = .ok (.getfield 197, 3) := by decide +kernel
theorem dX8_idle_18 : decode cX8_idle 18 = .ok (.if_icmp .ge 39, 3) := by decide +kernel
theorem dX8_idle_21 : decode cX8_idle 21 = .ok (.aload_n 0, 1) := by decide +kernel
theorem dX8_idle_22 : decode cX8_idle 22 = .ok (.iload_n 3, 1) := by decide +kernel
theorem dX8_idle_23 : decode cX8_idle 23 = .ok (.aload_n 0, 1) := by decide +kernel
theorem dX8_idle_24 : decode cX8_idle 24 = .ok (.getfield 17, 3) := by decide +kernel
theorem dX8_idle_27 : decode cX8_idle 27 = .ok (.iload_n 1, 1) := by decide +kernel
theorem dX8_idle_28 : decode cX8_idle 28 = .ok (.laload, 1) := by decide +kernel
theorem dX8_idle_29 : decode cX8_idle 29 = .ok (.invokevirtual 203, 3) := by decide +kernel
theorem dX8_idle_32 : decode cX8_idle 32 = .ok (.iload_n 2, 1) := by decide +kernel
theorem dX8_idle_33 : decode cX8_idle 33 = .ok (.aload_n 0, 1) := by decide +kernel
theorem dX8_idle_34 : decode cX8_idle 34 = .ok (.getfield 42, 3) := by decide +kernel
theorem dX8_idle_37 : decode cX8_idle 37 = .ok (.iload_n 3, 1) := by decide +kernel
theorem dX8_idle_38 : decode cX8_idle 38 = .ok (.iaload, 1) := by decide +kernel
theorem dX8_idle_39 : decode cX8_idle 39 = .ok (.ifCond .ne 9, 3) := by decide +kernel
theorem dX8_idle_42 : decode cX8_idle 42 = .ok (.iconst 1, 1) := by decide +kernel
theorem dX8_idle_43 : decode cX8_idle 43 = .ok (.iload_n 3, 1) := by decide +kernel
theorem dX8_idle_44 : decode cX8_idle 44 = .ok (.ishl, 1) := by decide +kernel
theorem dX8_idle_45 : decode cX8_idle 45 = .ok (.goto 4, 3) := by decide +kernel
theorem dX8_idle_48 : decode cX8_idle 48 = .ok (.iconst 0, 1) := by decide +kernel
theorem dX8_idle_49 : decode cX8_idle 49 = .ok (.ior, 1) := by decide +kernel
theorem dX8_idle_50 : decode cX8_idle 50 = .ok (.istore_n 2, 1) := by decide +kernel
theorem dX8_idle_51 : decode cX8_idle 51 = .ok (.iinc 3 1, 3) := by decide +kernel
theorem dX8_idle_54 : decode cX8_idle 54 = .ok (.goto (-41), 3) := by decide +kernel
theorem dX8_idle_57 : decode cX8_idle 57 = .ok (.iload_n 2, 1) := by decide +kernel
theorem dX8_idle_58 : decode cX8_idle 58 = .ok (.ireturn, 1) := by decide +kernel
set_option maxRecDepth 20000 in
theorem ggX8_grows_X8_has : GoodIn wsX8_grows wsX8_has := goodIn_r _ [5] (by decide +kernel) (by decide +kernel)
set_option maxRecDepth 20000 in
theorem gX8_grows_X8_has : GoodIn wsX8_grows (va_wsS RX8 120 yX8_has wsX8_has) := goodIn_app (goodIn_of _ (by decide +kernel)) ggX8_grows_X8_has
theorem dX8_grows_0 : decode cX8_grows 0 = .ok (.lload_n 1, 1) := by decide +kernel
theorem dX8_grows_1 : decode cX8_grows 1 = .ok (.iload_n 3, 1) := by decide +kernel
theorem dX8_grows_2 : decode cX8_grows 2 = .ok (.invokestatic 120, 3) := by decide +kernel
theorem dX8_grows_5 : decode cX8_grows 5 = .ok (.ifCond .ne 20, 3) := by decide +kernel
theorem dX8_grows_8 : decode cX8_grows 8 = .ok (.aload_n 0, 1) := by decide +kernel
theorem dX8_grows_9 : decode cX8_grows 9 = .ok (.getfield 7, 3) := by decide +kernel
theorem dX8_grows_12 : decode cX8_grows 12 = .ok (.iload_n 3, 1) := by decide +kernel
theorem dX8_grows_13 : decode cX8_grows 13 = .ok (.laload, 1) := by decide +kernel
theorem dX8_grows_14 : decode cX8_grows 14 = .ok (.lload_n 1, 1) := by decide +kernel
theorem dX8_grows_15 : decode cX8_grows 15 = .ok (.land, 1) := by decide +kernel
theorem dX8_grows_16 : decode cX8_grows 16 = .ok (.lconst 0, 1) := by decide +kernel
theorem dX8_grows_17 : decode cX8_grows 17 = .ok (.lcmp, 1) := by decide +kernel
theorem dX8_grows_18 : decode cX8_grows 18 = .ok (.ifCond .eq 7, 3) := by decide +kernel
theorem dX8_grows_21 : decode cX8_grows 21 = .ok (.iconst 1, 1) := by decide +kernel
theorem dX8_grows_22 : decode cX8_grows 22 = .ok (.goto 4, 3) := by decide +kernel
theorem dX8_grows_25 : decode cX8_grows 25 = .ok (.iconst 0, 1) := by decide +kernel
theorem dX8_grows_26 : decode cX8_grows 26 = .ok (.ireturn, 1) := by decide +kernel
set_option maxRecDepth 20000 in
theorem ggX8_grown_X8_isFigure : GoodIn wsX8_grown wsX8_isFigure := goodIn_r _ [5, 6, 7, 8, 4, 9] (by decide +kernel) (by decide +kernel)
set_option maxRecDepth 20000 in
theorem gX8_grown_X8_isFigure : GoodIn wsX8_grown (va_wsS RX8 106 yX8_isFigure wsX8_isFigure) := goodIn_app (goodIn_of _ (by decide +kernel)) ggX8_grown_X8_isFigure
set_option maxRecDepth 20000 in
theorem ggX8_grown_X8_grows : GoodIn wsX8_grown wsX8_grows := goodIn_r _ [13, 14, 15, 16, 4, 17, 18, 19, 20, 21, 22, 23, 24, 25, 26, 27, 28, 29, 30, 31, 32, 33, 34, 35, 36, 37, 38, 39, 40] (by decide +kernel) (by decide +kernel)
set_option maxRecDepth 20000 in
theorem gX8_grown_X8_grows : GoodIn wsX8_grown (wsV RX8 213 RX8 yX8_grows wsX8_grows) := goodIn_app (goodIn_of _ (by decide +kernel)) ggX8_grown_X8_grows
theorem dX8_grown_0 : decode cX8_grown 0 = .ok (.iload_n 1, 1) := by decide +kernel
theorem dX8_grown_1 : decode cX8_grown 1 = .ok (.invokestatic 106, 3) := by decide +kernel
theorem dX8_grown_4 : decode cX8_grown 4 = .ok (.ifCond .ne 5, 3) := by decide +kernel
theorem dX8_grown_7 : decode cX8_grown 7 = .ok (.iconst (-1), 1) := by decide +kernel
theorem dX8_grown_8 : decode cX8_grown 8 = .ok (.ireturn, 1) := by decide +kernel
theorem dX8_grown_9 : decode cX8_grown 9 = .ok (.iconst 0, 1) := by decide +kernel
theorem dX8_grown_10 : decode cX8_grown 10 = .ok (.istore_n 2, 1) := by decide +kernel
theorem dX8_grown_11 : decode cX8_grown 11 = .ok (.iconst 0, 1) := by decide +kernel
theorem dX8_grown_12 : decode cX8_grown 12 = .ok (.istore_n 3, 1) := by decide +kernel
theorem dX8_grown_13 : decode cX8_grown 13 = .ok (.iload_n 3, 1) := by decide +kernel
theorem dX8_grown_14 : decode cX8_grown 14 = .ok (.bipush 64, 2) := by decide +kernel
theorem dX8_grown_16 : decode cX8_grown 16 = .ok (.if_icmp .ge 31, 3) := by decide +kernel
theorem dX8_grown_19 : decode cX8_grown 19 = .ok (.iload_n 2, 1) := by decide +kernel
theorem dX8_grown_20 : decode cX8_grown 20 = .ok (.aload_n 0, 1) := by decide +kernel
theorem dX8_grown_21 : decode cX8_grown 21 = .ok (.aload_n 0, 1) := by decide +kernel
theorem dX8_grown_22 : decode cX8_grown 22 = .ok (.getfield 17, 3) := by decide +kernel
theorem dX8_grown_25 : decode cX8_grown 25 = .ok (.iload_n 1, 1) := by decide +kernel
theorem dX8_grown_26 : decode cX8_grown 26 = .ok (.laload, 1) := by decide +kernel
theorem dX8_grown_27 : decode cX8_grown 27 = .ok (.iload_n 3, 1) := by decide +kernel
theorem dX8_grown_28 : decode cX8_grown 28 = .ok (.invokevirtual 213, 3) := by decide +kernel
theorem dX8_grown_31 : decode cX8_grown 31 = .ok (.ifCond .eq 7, 3) := by decide +kernel
theorem dX8_grown_34 : decode cX8_grown 34 = .ok (.iconst 1, 1) := by decide +kernel
theorem dX8_grown_35 : decode cX8_grown 35 = .ok (.goto 4, 3) := by decide +kernel
theorem dX8_grown_38 : decode cX8_grown 38 = .ok (.iconst 0, 1) := by decide +kernel
theorem dX8_grown_39 : decode cX8_grown 39 = .ok (.iadd, 1) := by decide +kernel
theorem dX8_grown_40 : decode cX8_grown 40 = .ok (.istore_n 2, 1) := by decide +kernel
theorem dX8_grown_41 : decode cX8_grown 41 = .ok (.iinc 3 1, 3) := by decide +kernel
theorem dX8_grown_44 : decode cX8_grown 44 = .ok (.goto (-31), 3) := by decide +kernel
theorem dX8_grown_47 : decode cX8_grown 47 = .ok (.iload_n 2, 1) := by decide +kernel
theorem dX8_grown_48 : decode cX8_grown 48 = .ok (.ireturn, 1) := by decide +kernel
set_option maxRecDepth 20000 in
theorem ggX8_forms_X8_isFigure : GoodIn wsX8_forms wsX8_isFigure := goodIn_r _ [6, 7, 8, 9, 5, 10] (by decide +kernel) (by decide +kernel)
set_option maxRecDepth 20000 in
theorem gX8_forms_X8_isFigure : GoodIn wsX8_forms (va_wsS RX8 106 yX8_isFigure wsX8_isFigure) := goodIn_app (goodIn_of _ (by decide +kernel)) ggX8_forms_X8_isFigure
set_option maxRecDepth 20000 in
theorem ggX8_forms_X8_grows : GoodIn wsX8_forms wsX8_grows := goodIn_r _ [14, 15, 16, 17, 5, 18, 50, 51, 52, 53, 54, 55, 56, 57, 58, 59, 60, 61, 62, 63, 64, 65, 66, 67, 68, 69, 70, 71, 72] (by decide +kernel) (by decide +kernel)
set_option maxRecDepth 20000 in
theorem gX8_forms_X8_grows : GoodIn wsX8_forms (wsV RX8 213 RX8 yX8_grows wsX8_grows) := goodIn_app (goodIn_of _ (by decide +kernel)) ggX8_forms_X8_grows
set_option maxRecDepth 20000 in
theorem ggX8_forms_X8_formOf : GoodIn wsX8_forms wsX8_formOf := goodIn_r _ [22, 23, 24, 25, 26, 5, 27, 28, 29, 30, 31, 32, 33, 16, 17, 18, 34, 35, 36, 37, 38, 8, 9, 10, 39, 40, 41, 42, 43, 44, 45, 46, 47, 48, 49, 50, 51, 52, 53, 54, 55, 56, 57, 58, 59, 60, 61, 62, 63, 64, 65, 66, 67, 68, 69, 70, 71, 72] (by decide +kernel) (by decide +kernel)
set_option maxRecDepth 20000 in
theorem gX8_forms_X8_formOf : GoodIn wsX8_forms (wsV RX8 181 RX8 yX8_formOf wsX8_formOf) := goodIn_app (goodIn_of _ (by decide +kernel)) ggX8_forms_X8_formOf
theorem dX8_forms_0 : decode cX8_forms 0 = .ok (.iload_n 1, 1) := by decide +kernel
theorem dX8_forms_1 : decode cX8_forms 1 = .ok (.invokestatic 106, 3) := by decide +kernel
theorem dX8_forms_4 : decode cX8_forms 4 = .ok (.ifCond .ne 5, 3) := by decide +kernel
theorem dX8_forms_7 : decode cX8_forms 7 = .ok (.iconst (-1), 1) := by decide +kernel
theorem dX8_forms_8 : decode cX8_forms 8 = .ok (.ireturn, 1) := by decide +kernel
theorem dX8_forms_9 : decode cX8_forms 9 = .ok (.iconst 0, 1) := by decide +kernel
theorem dX8_forms_10 : decode cX8_forms 10 = .ok (.istore_n 2, 1) := by decide +kernel
theorem dX8_forms_11 : decode cX8_forms 11 = .ok (.iconst 0, 1) := by decide +kernel
theorem dX8_forms_12 : decode cX8_forms 12 = .ok (.istore_n 3, 1) := by decide +kernel
theorem dX8_forms_13 : decode cX8_forms 13 = .ok (.iload_n 3, 1) := by decide +kernel
theorem dX8_forms_14 : decode cX8_forms 14 = .ok (.bipush 64, 2) := by decide +kernel
theorem dX8_forms_16 : decode cX8_forms 16 = .ok (.if_icmp .ge 103, 3) := by decide +kernel
theorem dX8_forms_19 : decode cX8_forms 19 = .ok (.aload_n 0, 1) := by decide +kernel
theorem dX8_forms_20 : decode cX8_forms 20 = .ok (.aload_n 0, 1) := by decide +kernel
theorem dX8_forms_21 : decode cX8_forms 21 = .ok (.getfield 17, 3) := by decide +kernel
theorem dX8_forms_24 : decode cX8_forms 24 = .ok (.iload_n 1, 1) := by decide +kernel
theorem dX8_forms_25 : decode cX8_forms 25 = .ok (.laload, 1) := by decide +kernel
theorem dX8_forms_26 : decode cX8_forms 26 = .ok (.iload_n 3, 1) := by decide +kernel
theorem dX8_forms_27 : decode cX8_forms 27 = .ok (.invokevirtual 213, 3) := by decide +kernel
theorem dX8_forms_30 : decode cX8_forms 30 = .ok (.ifCond .eq 83, 3) := by decide +kernel
theorem dX8_forms_33 : decode cX8_forms 33 = .ok (.aload_n 0, 1) := by decide +kernel
theorem dX8_forms_34 : decode cX8_forms 34 = .ok (.getfield 51, 3) := by decide +kernel
theorem dX8_forms_37 : decode cX8_forms 37 = .ok (.iload_n 2, 1) := by decide +kernel
theorem dX8_forms_38 : decode cX8_forms 38 = .ok (.aload_n 0, 1) := by decide +kernel
theorem dX8_forms_39 : decode cX8_forms 39 = .ok (.aload_n 0, 1) := by decide +kernel
theorem dX8_forms_40 : decode cX8_forms 40 = .ok (.getfield 17, 3) := by decide +kernel
theorem dX8_forms_43 : decode cX8_forms 43 = .ok (.iload_n 1, 1) := by decide +kernel
theorem dX8_forms_44 : decode cX8_forms 44 = .ok (.laload, 1) := by decide +kernel
theorem dX8_forms_45 : decode cX8_forms 45 = .ok (.lconst 1, 1) := by decide +kernel
theorem dX8_forms_46 : decode cX8_forms 46 = .ok (.iload_n 3, 1) := by decide +kernel
theorem dX8_forms_47 : decode cX8_forms 47 = .ok (.lshl, 1) := by decide +kernel
theorem dX8_forms_48 : decode cX8_forms 48 = .ok (.lor, 1) := by decide +kernel
theorem dX8_forms_49 : decode cX8_forms 49 = .ok (.invokevirtual 181, 3) := by decide +kernel
theorem dX8_forms_52 : decode cX8_forms 52 = .ok (.lastore, 1) := by decide +kernel
theorem dX8_forms_53 : decode cX8_forms 53 = .ok (.iconst 1, 1) := by decide +kernel
theorem dX8_forms_54 : decode cX8_forms 54 = .ok (.istore 4, 2) := by decide +kernel
theorem dX8_forms_56 : decode cX8_forms 56 = .ok (.iconst 0, 1) := by decide +kernel
theorem dX8_forms_57 : decode cX8_forms 57 = .ok (.istore 5, 2) := by decide +kernel
theorem dX8_forms_59 : decode cX8_forms 59 = .ok (.iload 5, 2) := by decide +kernel
theorem dX8_forms_61 : decode cX8_forms 61 = .ok (.iload_n 2, 1) := by decide +kernel
theorem dX8_forms_62 : decode cX8_forms 62 = .ok (.if_icmp .ge 38, 3) := by decide +kernel
theorem dX8_forms_65 : decode cX8_forms 65 = .ok (.iload 4, 2) := by decide +kernel
theorem dX8_forms_67 : decode cX8_forms 67 = .ok (.ifCond .eq 24, 3) := by decide +kernel
theorem dX8_forms_70 : decode cX8_forms 70 = .ok (.aload_n 0, 1) := by decide +kernel
theorem dX8_forms_71 : decode cX8_forms 71 = .ok (.getfield 51, 3) := by decide +kernel
theorem dX8_forms_74 : decode cX8_forms 74 = .ok (.iload 5, 2) := by decide +kernel
theorem dX8_forms_76 : decode cX8_forms 76 = .ok (.laload, 1) := by decide +kernel
theorem dX8_forms_77 : decode cX8_forms 77 = .ok (.aload_n 0, 1) := by decide +kernel
theorem dX8_forms_78 : decode cX8_forms 78 = .ok (.getfield 51, 3) := by decide +kernel
theorem dX8_forms_81 : decode cX8_forms 81 = .ok (.iload_n 2, 1) := by decide +kernel
theorem dX8_forms_82 : decode cX8_forms 82 = .ok (.laload, 1) := by decide +kernel
theorem dX8_forms_83 : decode cX8_forms 83 = .ok (.lcmp, 1) := by decide +kernel
theorem dX8_forms_84 : decode cX8_forms 84 = .ok (.ifCond .eq 7, 3) := by decide +kernel
theorem dX8_forms_87 : decode cX8_forms 87 = .ok (.iconst 1, 1) := by decide +kernel
theorem dX8_forms_88 : decode cX8_forms 88 = .ok (.goto 4, 3) := by decide +kernel
theorem dX8_forms_91 : decode cX8_forms 91 = .ok (.iconst 0, 1) := by decide +kernel
theorem dX8_forms_92 : decode cX8_forms 92 = .ok (.istore 4, 2) := by decide +kernel
theorem dX8_forms_94 : decode cX8_forms 94 = .ok (.iinc 5 1, 3) := by decide +kernel
theorem dX8_forms_97 : decode cX8_forms 97 = .ok (.goto (-38), 3) := by decide +kernel
theorem dX8_forms_100 : decode cX8_forms 100 = .ok (.iload_n 2, 1) := by decide +kernel
theorem dX8_forms_101 : decode cX8_forms 101 = .ok (.iload 4, 2) := by decide +kernel
theorem dX8_forms_103 : decode cX8_forms 103 = .ok (.ifCond .eq 7, 3) := by decide +kernel
theorem dX8_forms_106 : decode cX8_forms 106 = .ok (.iconst 1, 1) := by decide +kernel
theorem dX8_forms_107 : decode cX8_forms 107 = .ok (.goto 4, 3) := by decide +kernel
theorem dX8_forms_110 : decode cX8_forms 110 = .ok (.iconst 0, 1) := by decide +kernel
theorem dX8_forms_111 : decode cX8_forms 111 = .ok (.iadd, 1) := by decide +kernel
theorem dX8_forms_112 : decode cX8_forms 112 = .ok (.istore_n 2, 1) := by decide +kernel
theorem dX8_forms_113 : decode cX8_forms 113 = .ok (.iinc 3 1, 3) := by decide +kernel
theorem dX8_forms_116 : decode cX8_forms 116 = .ok (.goto (-103), 3) := by decide +kernel
theorem dX8_forms_119 : decode cX8_forms 119 = .ok (.iload_n 2, 1) := by decide +kernel
theorem dX8_forms_120 : decode cX8_forms 120 = .ok (.ireturn, 1) := by decide +kernel
set_option maxRecDepth 20000 in
theorem ggX8_grow_X8_isFigure : GoodIn wsX8_grow wsX8_isFigure := goodIn_r _ [5, 6, 7, 8, 4, 9] (by decide +kernel) (by decide +kernel)
set_option maxRecDepth 20000 in
theorem gX8_grow_X8_isFigure : GoodIn wsX8_grow (va_wsS RX8 106 yX8_isFigure wsX8_isFigure) := goodIn_app (goodIn_of _ (by decide +kernel)) ggX8_grow_X8_isFigure
set_option maxRecDepth 20000 in
theorem ggX8_grow_X8_grows : GoodIn wsX8_grow wsX8_grows := goodIn_r _ [13, 14, 15, 16, 4, 17, 18, 19, 20, 21, 22, 23, 24, 25, 26, 27, 28, 29, 30, 31, 32, 33, 34, 35, 36, 37, 38, 39, 40] (by decide +kernel) (by decide +kernel)
set_option maxRecDepth 20000 in
theorem gX8_grow_X8_grows : GoodIn wsX8_grow (wsV RX8 213 RX8 yX8_grows wsX8_grows) := goodIn_app (goodIn_of _ (by decide +kernel)) ggX8_grow_X8_grows
theorem dX8_grow_0 : decode cX8_grow 0 = .ok (.iload_n 1, 1) := by decide +kernel
theorem dX8_grow_1 : decode cX8_grow 1 = .ok (.invokestatic 106, 3) := by decide +kernel
theorem dX8_grow_4 : decode cX8_grow 4 = .ok (.ifCond .ne 5, 3) := by decide +kernel
theorem dX8_grow_7 : decode cX8_grow 7 = .ok (.iconst (-1), 1) := by decide +kernel
theorem dX8_grow_8 : decode cX8_grow 8 = .ok (.ireturn, 1) := by decide +kernel
theorem dX8_grow_9 : decode cX8_grow 9 = .ok (.iconst 0, 1) := by decide +kernel
theorem dX8_grow_10 : decode cX8_grow 10 = .ok (.istore_n 3, 1) := by decide +kernel
theorem dX8_grow_11 : decode cX8_grow 11 = .ok (.iconst 0, 1) := by decide +kernel
theorem dX8_grow_12 : decode cX8_grow 12 = .ok (.istore 4, 2) := by decide +kernel
theorem dX8_grow_14 : decode cX8_grow 14 = .ok (.iload 4, 2) := by decide +kernel
theorem dX8_grow_16 : decode cX8_grow 16 = .ok (.bipush 64, 2) := by decide +kernel
theorem dX8_grow_18 : decode cX8_grow 18 = .ok (.if_icmp .ge 48, 3) := by decide +kernel
theorem dX8_grow_21 : decode cX8_grow 21 = .ok (.aload_n 0, 1) := by decide +kernel
theorem dX8_grow_22 : decode cX8_grow 22 = .ok (.aload_n 0, 1) := by decide +kernel
theorem dX8_grow_23 : decode cX8_grow 23 = .ok (.getfield 17, 3) := by decide +kernel
theorem dX8_grow_26 : decode cX8_grow 26 = .ok (.iload_n 1, 1) := by decide +kernel
theorem dX8_grow_27 : decode cX8_grow 27 = .ok (.laload, 1) := by decide +kernel
theorem dX8_grow_28 : decode cX8_grow 28 = .ok (.iload 4, 2) := by decide +kernel
theorem dX8_grow_30 : decode cX8_grow 30 = .ok (.invokevirtual 213, 3) := by decide +kernel
theorem dX8_grow_33 : decode cX8_grow 33 = .ok (.ifCond .eq 27, 3) := by decide +kernel
theorem dX8_grow_36 : decode cX8_grow 36 = .ok (.iload_n 3, 1) := by decide +kernel
theorem dX8_grow_37 : decode cX8_grow 37 = .ok (.iload_n 2, 1) := by decide +kernel
theorem dX8_grow_38 : decode cX8_grow 38 = .ok (.if_icmp .ne 19, 3) := by decide +kernel
theorem dX8_grow_41 : decode cX8_grow 41 = .ok (.aload_n 0, 1) := by decide +kernel
theorem dX8_grow_42 : decode cX8_grow 42 = .ok (.getfield 17, 3) := by decide +kernel
theorem dX8_grow_45 : decode cX8_grow 45 = .ok (.iload_n 1, 1) := by decide +kernel
theorem dX8_grow_46 : decode cX8_grow 46 = .ok (.dup2, 1) := by decide +kernel
theorem dX8_grow_47 : decode cX8_grow 47 = .ok (.laload, 1) := by decide +kernel
theorem dX8_grow_48 : decode cX8_grow 48 = .ok (.lconst 1, 1) := by decide +kernel
theorem dX8_grow_49 : decode cX8_grow 49 = .ok (.iload 4, 2) := by decide +kernel
theorem dX8_grow_51 : decode cX8_grow 51 = .ok (.lshl, 1) := by decide +kernel
theorem dX8_grow_52 : decode cX8_grow 52 = .ok (.lor, 1) := by decide +kernel
theorem dX8_grow_53 : decode cX8_grow 53 = .ok (.lastore, 1) := by decide +kernel
theorem dX8_grow_54 : decode cX8_grow 54 = .ok (.iload 4, 2) := by decide +kernel
theorem dX8_grow_56 : decode cX8_grow 56 = .ok (.ireturn, 1) := by decide +kernel
theorem dX8_grow_57 : decode cX8_grow 57 = .ok (.iinc 3 1, 3) := by decide +kernel
theorem dX8_grow_60 : decode cX8_grow 60 = .ok (.iinc 4 1, 3) := by decide +kernel
theorem dX8_grow_63 : decode cX8_grow 63 = .ok (.goto (-49), 3) := by decide +kernel
theorem dX8_grow_66 : decode cX8_grow 66 = .ok (.bipush (-9), 2) := by decide +kernel
theorem dX8_grow_68 : decode cX8_grow 68 = .ok (.ireturn, 1) := by decide +kernel
theorem dX8_some_0 : decode cX8_some 0 = .ok (.iconst 0, 1) := by decide +kernel
theorem dX8_some_1 : decode cX8_some 1 = .ok (.istore_n 1, 1) := by decide +kernel
theorem dX8_some_2 : decode cX8_some 2 = .ok (.iconst 0, 1) := by decide +kernel
theorem dX8_some_3 : decode cX8_some 3 = .ok (.istore_n 2, 1) := by decide +kernel
theorem dX8_some_4 : decode cX8_some 4 = .ok (.iload_n 2, 1) := by decide +kernel
theorem dX8_some_5 : decode cX8_some 5 = .ok (.bipush 8, 2) := by decide +kernel
theorem dX8_some_7 : decode cX8_some 7 = .ok (.if_icmp .ge 28, 3) := by decide +kernel
theorem dX8_some_10 : decode cX8_some 10 = .ok (.iload_n 1, 1) := by decide +kernel
theorem dX8_some_11 : decode cX8_some 11 = .ok (.aload_n 0, 1) := by decide +kernel
theorem dX8_some_12 : decode cX8_some 12 = .ok (.getfield 17, 3) := by decide +kernel
theorem dX8_some_15 : decode cX8_some 15 = .ok (.iload_n 2, 1) := by decide +kernel
theorem dX8_some_16 : decode cX8_some 16 = .ok (.laload, 1) := by decide +kernel
theorem dX8_some_17 : decode cX8_some 17 = .ok (.lconst 0, 1) := by decide +kernel
theorem dX8_some_18 : decode cX8_some 18 = .ok (.lcmp, 1) := by decide +kernel
theorem dX8_some_19 : decode cX8_some 19 = .ok (.ifCond .ne 7, 3) := by decide +kernel
theorem dX8_some_22 : decode cX8_some 22 = .ok (.iconst 0, 1) := by decide +kernel
theorem dX8_some_23 : decode cX8_some 23 = .ok (.goto 4, 3) := by decide +kernel
theorem dX8_some_26 : decode cX8_some 26 = .ok (.iconst 1, 1) := by decide +kernel
theorem dX8_some_27 : decode cX8_some 27 = .ok (.iadd, 1) := by decide +kernel
theorem dX8_some_28 : decode cX8_some 28 = .ok (.istore_n 1, 1) := by decide +kernel
theorem dX8_some_29 : decode cX8_some 29 = .ok (.iinc 2 1, 3) := by decide +kernel
theorem dX8_some_32 : decode cX8_some 32 = .ok (.goto (-28), 3) := by decide +kernel
theorem dX8_some_35 : decode cX8_some 35 = .ok (.iload_n 1, 1) := by decide +kernel
theorem dX8_some_36 : decode cX8_some 36 = .ok (.ireturn, 1) := by decide +kernel
set_option maxRecDepth 20000 in
theorem ggX8_keep_X8_in : GoodIn wsX8_keep wsX8_in := goodIn_r _ [13] (by decide +kernel) (by decide +kernel)
set_option maxRecDepth 20000 in
theorem gX8_keep_X8_in : GoodIn wsX8_keep (va_wsS RX8 75 yX8_in wsX8_in) := goodIn_app (goodIn_of _ (by decide +kernel)) ggX8_keep_X8_in
set_option maxRecDepth 20000 in
theorem ggX8_keep_X8_some : GoodIn wsX8_keep wsX8_some := goodIn_r _ [17, 3, 18, 19, 20, 21, 22, 23, 24, 25, 26, 27, 28, 29, 30, 31, 32, 33, 34, 35, 36, 37, 38, 39, 40] (by decide +kernel) (by decide +kernel)
set_option maxRecDepth 20000 in
theorem gX8_keep_X8_some : GoodIn wsX8_keep (wsV RX8 216 RX8 yX8_some wsX8_some) := goodIn_app (goodIn_of _ (by decide +kernel)) ggX8_keep_X8_some
theorem dX8_keep_0 : decode cX8_keep 0 = .ok (.iload_n 1, 1) := by decide +kernel
theorem dX8_keep_1 : decode cX8_keep 1 = .ok (.i2l, 1) := by decide +kernel
theorem dX8_keep_2 : decode cX8_keep 2 = .ok (.lconst 0, 1) := by decide +kernel
theorem dX8_keep_3 : decode cX8_keep 3 = .ok (.lconst 1, 1) := by decide +kernel
theorem dX8_keep_4 : decode cX8_keep 4 = .ok (.invokestatic 75, 3) := by decide +kernel
theorem dX8_keep_7 : decode cX8_keep 7 = .ok (.ifCond .ne 5, 3) := by decide +kernel
theorem dX8_keep_10 : decode cX8_keep 10 = .ok (.iconst (-1), 1) := by decide +kernel
theorem dX8_keep_11 : decode cX8_keep 11 = .ok (.ireturn, 1) := by decide +kernel
theorem dX8_keep_12 : decode cX8_keep 12 = .ok (.aload_n 0, 1) := by decide +kernel
theorem dX8_keep_13 : decode cX8_keep 13 = .ok (.getfield 54, 3) := by decide +kernel
theorem dX8_keep_16 : decode cX8_keep 16 = .ok (.iload_n 1, 1) := by decide +kernel
theorem dX8_keep_17 : decode cX8_keep 17 = .ok (.iconst 1, 1) := by decide +kernel
theorem dX8_keep_18 : decode cX8_keep 18 = .ok (.bastore, 1) := by decide +kernel
theorem dX8_keep_19 : decode cX8_keep 19 = .ok (.iconst 0, 1) := by decide +kernel
theorem dX8_keep_20 : decode cX8_keep 20 = .ok (.istore_n 2, 1) := by decide +kernel
theorem dX8_keep_21 : decode cX8_keep 21 = .ok (.iload_n 2, 1) := by decide +kernel
theorem dX8_keep_22 : decode cX8_keep 22 = .ok (.bipush 8, 2) := by decide +kernel
theorem dX8_keep_24 : decode cX8_keep 24 = .ok (.if_icmp .ge 26, 3) := by decide +kernel
theorem dX8_keep_27 : decode cX8_keep 27 = .ok (.aload_n 0, 1) := by decide +kernel
theorem dX8_keep_28 : decode cX8_keep 28 = .ok (.getfield 57, 3) := by decide +kernel
theorem dX8_keep_31 : decode cX8_keep 31 = .ok (.bipush 8, 2) := by decide +kernel
theorem dX8_keep_33 : decode cX8_keep 33 = .ok (.iload_n 1, 1) := by decide +kernel
theorem dX8_keep_34 : decode cX8_keep 34 = .ok (.imul, 1) := by decide +kernel
theorem dX8_keep_35 : decode cX8_keep 35 = .ok (.iload_n 2, 1) := by decide +kernel
theorem dX8_keep_36 : decode cX8_keep 36 = .ok (.iadd, 1) := by decide +kernel
theorem dX8_keep_37 : decode cX8_keep 37 = .ok (.aload_n 0, 1) := by decide +kernel
theorem dX8_keep_38 : decode cX8_keep 38 = .ok (.getfield 17, 3) := by decide +kernel
theorem dX8_keep_41 : decode cX8_keep 41 = .ok (.iload_n 2, 1) := by decide +kernel
theorem dX8_keep_42 : decode cX8_keep 42 = .ok (.laload, 1) := by decide +kernel
theorem dX8_keep_43 : decode cX8_keep 43 = .ok (.lastore, 1) := by decide +kernel
theorem dX8_keep_44 : decode cX8_keep 44 = .ok (.iinc 2 1, 3) := by decide +kernel
theorem dX8_keep_47 : decode cX8_keep 47 = .ok (.goto (-26), 3) := by decide +kernel
theorem dX8_keep_50 : decode cX8_keep 50 = .ok (.aload_n 0, 1) := by decide +kernel
theorem dX8_keep_51 : decode cX8_keep 51 = .ok (.getfield 60, 3) := by decide +kernel
theorem dX8_keep_54 : decode cX8_keep 54 = .ok (.iload_n 1, 1) := by decide +kernel
theorem dX8_keep_55 : decode cX8_keep 55 = .ok (.aload_n 0, 1) := by decide +kernel
theorem dX8_keep_56 : decode cX8_keep 56 = .ok (.getfield 197, 3) := by decide +kernel
theorem dX8_keep_59 : decode cX8_keep 59 = .ok (.iastore, 1) := by decide +kernel
theorem dX8_keep_60 : decode cX8_keep 60 = .ok (.iconst 0, 1) := by decide +kernel
theorem dX8_keep_61 : decode cX8_keep 61 = .ok (.istore_n 2, 1) := by decide +kernel
theorem dX8_keep_62 : decode cX8_keep 62 = .ok (.iload_n 2, 1) := by decide +kernel
theorem dX8_keep_63 : decode cX8_keep 63 = .ok (.iconst 4, 1) := by decide +kernel
theorem dX8_keep_64 : decode cX8_keep 64 = .ok (.if_icmp .ge 41, 3) := by decide +kernel
theorem dX8_keep_67 : decode cX8_keep 67 = .ok (.aload_n 0, 1) := by decide +kernel
theorem dX8_keep_68 : decode cX8_keep 68 = .ok (.getfield 63, 3) := by decide +kernel
theorem dX8_keep_71 : decode cX8_keep 71 = .ok (.iconst 4, 1) := by decide +kernel
theorem dX8_keep_72 : decode cX8_keep 72 = .ok (.iload_n 1, 1) := by decide +kernel
theorem dX8_keep_73 : decode cX8_keep 73 = .ok (.imul, 1) := by decide +kernel
theorem dX8_keep_74 : decode cX8_keep 74 = .ok (.iload_n 2, 1) := by decide +kernel
theorem dX8_keep_75 : decode cX8_keep 75 = .ok (.iadd, 1) := by decide +kernel
theorem dX8_keep_76 : decode cX8_keep 76 = .ok (.aload_n 0, 1) := by decide +kernel
theorem dX8_keep_77 : decode cX8_keep 77 = .ok (.getfield 33, 3) := by decide +kernel
theorem dX8_keep_80 : decode cX8_keep 80 = .ok (.iload_n 2, 1) := by decide +kernel
theorem dX8_keep_81 : decode cX8_keep 81 = .ok (.laload, 1) := by decide +kernel
theorem dX8_keep_82 : decode cX8_keep 82 = .ok (.lastore, 1) := by decide +kernel
theorem dX8_keep_83 : decode cX8_keep 83 = .ok (.aload_n 0, 1) := by decide +kernel
theorem dX8_keep_84 : decode cX8_keep 84 = .ok (.getfield 66, 3) := by decide +kernel
theorem dX8_keep_87 : decode cX8_keep 87 = .ok (.iconst 4, 1) := by decide +kernel
theorem dX8_keep_88 : decode cX8_keep 88 = .ok (.iload_n 1, 1) := by decide +kernel
theorem dX8_keep_89 : decode cX8_keep 89 = .ok (.imul, 1) := by decide +kernel
theorem dX8_keep_90 : decode cX8_keep 90 = .ok (.iload_n 2, 1) := by decide +kernel
theorem dX8_keep_91 : decode cX8_keep 91 = .ok (.iadd, 1) := by decide +kernel
theorem dX8_keep_92 : decode cX8_keep 92 = .ok (.aload_n 0, 1) := by decide +kernel
theorem dX8_keep_93 : decode cX8_keep 93 = .ok (.getfield 36, 3) := by decide +kernel
theorem dX8_keep_96 : decode cX8_keep 96 = .ok (.iload_n 2, 1) := by decide +kernel
theorem dX8_keep_97 : decode cX8_keep 97 = .ok (.baload, 1) := by decide +kernel
theorem dX8_keep_98 : decode cX8_keep 98 = .ok (.bastore, 1) := by decide +kernel
theorem dX8_keep_99 : decode cX8_keep 99 = .ok (.iinc 2 1, 3) := by decide +kernel
theorem dX8_keep_102 : decode cX8_keep 102 = .ok (.goto (-40), 3) := by decide +kernel
theorem dX8_keep_105 : decode cX8_keep 105 = .ok (.aload_n 0, 1) := by decide +kernel
theorem dX8_keep_106 : decode cX8_keep 106 = .ok (.invokevirtual 216, 3) := by decide +kernel
theorem dX8_keep_109 : decode cX8_keep 109 = .ok (.ireturn, 1) := by decide +kernel
set_option maxRecDepth 20000 in
theorem ggX8_again_X8_in : GoodIn wsX8_again wsX8_in := goodIn_r _ [13] (by decide +kernel) (by decide +kernel)
set_option maxRecDepth 20000 in
theorem gX8_again_X8_in : GoodIn wsX8_again (va_wsS RX8 75 yX8_in wsX8_in) := goodIn_app (goodIn_of _ (by decide +kernel)) ggX8_again_X8_in
set_option maxRecDepth 20000 in
theorem ggX8_again_X8_some : GoodIn wsX8_again wsX8_some := goodIn_r _ [17, 2, 18, 19, 20, 21, 22, 23, 24, 25, 26, 27, 28, 29, 30, 31, 32, 33, 34, 35, 36, 37, 38, 39, 40] (by decide +kernel) (by decide +kernel)
set_option maxRecDepth 20000 in
theorem gX8_again_X8_some : GoodIn wsX8_again (wsV RX8 216 RX8 yX8_some wsX8_some) := goodIn_app (goodIn_of _ (by decide +kernel)) ggX8_again_X8_some
theorem dX8_again_0 : decode cX8_again 0 = .ok (.iload_n 1, 1) := by decide +kernel
theorem dX8_again_1 : decode cX8_again 1 = .ok (.i2l, 1) := by decide +kernel
theorem dX8_again_2 : decode cX8_again 2 = .ok (.lconst 0, 1) := by decide +kernel
theorem dX8_again_3 : decode cX8_again 3 = .ok (.lconst 1, 1) := by decide +kernel
theorem dX8_again_4 : decode cX8_again 4 = .ok (.invokestatic 75, 3) := by decide +kernel
theorem dX8_again_7 : decode cX8_again 7 = .ok (.ifCond .ne 5, 3) := by decide +kernel
theorem dX8_again_10 : decode cX8_again 10 = .ok (.iconst (-1), 1) := by decide +kernel
theorem dX8_again_11 : decode cX8_again 11 = .ok (.ireturn, 1) := by decide +kernel
theorem dX8_again_12 : decode cX8_again 12 = .ok (.aload_n 0, 1) := by decide +kernel
theorem dX8_again_13 : decode cX8_again 13 = .ok (.getfield 54, 3) := by decide +kernel
theorem dX8_again_16 : decode cX8_again 16 = .ok (.iload_n 1, 1) := by decide +kernel
theorem dX8_again_17 : decode cX8_again 17 = .ok (.baload, 1) := by decide +kernel
theorem dX8_again_18 : decode cX8_again 18 = .ok (.ifCond .ne 6, 3) := by decide +kernel
theorem dX8_again_21 : decode cX8_again 21 = .ok (.bipush (-3), 2) := by decide +kernel
theorem dX8_again_23 : decode cX8_again 23 = .ok (.ireturn, 1) := by decide +kernel
theorem dX8_again_24 : decode cX8_again 24 = .ok (.iconst 0, 1) := by decide +kernel
theorem dX8_again_25 : decode cX8_again 25 = .ok (.istore_n 2, 1) := by decide +kernel
theorem dX8_again_26 : decode cX8_again 26 = .ok (.iload_n 2, 1) := by decide +kernel
theorem dX8_again_27 : decode cX8_again 27 = .ok (.bipush 8, 2) := by decide +kernel
theorem dX8_again_29 : decode cX8_again 29 = .ok (.if_icmp .ge 26, 3) := by decide +kernel
theorem dX8_again_32 : decode cX8_again 32 = .ok (.aload_n 0, 1) := by decide +kernel
theorem dX8_again_33 : decode cX8_again 33 = .ok (.getfield 17, 3) := by decide +kernel
theorem dX8_again_36 : decode cX8_again 36 = .ok (.iload_n 2, 1) := by decide +kernel
theorem dX8_again_37 : decode cX8_again 37 = .ok (.aload_n 0, 1) := by decide +kernel
theorem dX8_again_38 : decode cX8_again 38 = .ok (.getfield 57, 3) := by decide +kernel
theorem dX8_again_41 : decode cX8_again 41 = .ok (.bipush 8, 2) := by decide +kernel
theorem dX8_again_43 : decode cX8_again 43 = .ok (.iload_n 1, 1) := by decide +kernel
theorem dX8_again_44 : decode cX8_again 44 = .ok (.imul, 1) := by decide +kernel
theorem dX8_again_45 : decode cX8_again 45 = .ok (.iload_n 2, 1) := by decide +kernel
theorem dX8_again_46 : decode cX8_again 46 = .ok (.iadd, 1) := by decide +kernel
theorem dX8_again_47 : decode cX8_again 47 = .ok (.laload, 1) := by decide +kernel
theorem dX8_again_48 : decode cX8_again 48 = .ok (.lastore, 1) := by decide +kernel
theorem dX8_again_49 : decode cX8_again 49 = .ok (.iinc 2 1, 3) := by decide +kernel
theorem dX8_again_52 : decode cX8_again 52 = .ok (.goto (-26), 3) := by decide +kernel
theorem dX8_again_55 : decode cX8_again 55 = .ok (.aload_n 0, 1) := by decide +kernel
theorem dX8_again_56 : decode cX8_again 56 = .ok (.aload_n 0, 1) := by decide +kernel
theorem dX8_again_57 : decode cX8_again 57 = .ok (.getfield 60, 3) := by decide +kernel
theorem dX8_again_60 : decode cX8_again 60 = .ok (.iload_n 1, 1) := by decide +kernel
theorem dX8_again_61 : decode cX8_again 61 = .ok (.iaload, 1) := by decide +kernel
theorem dX8_again_62 : decode cX8_again 62 = .ok (.putfield 197, 3) := by decide +kernel
theorem dX8_again_65 : decode cX8_again 65 = .ok (.iconst 0, 1) := by decide +kernel
theorem dX8_again_66 : decode cX8_again 66 = .ok (.istore_n 2, 1) := by decide +kernel
theorem dX8_again_67 : decode cX8_again 67 = .ok (.iload_n 2, 1) := by decide +kernel
theorem dX8_again_68 : decode cX8_again 68 = .ok (.iconst 4, 1) := by decide +kernel
theorem dX8_again_69 : decode cX8_again 69 = .ok (.if_icmp .ge 41, 3) := by decide +kernel
theorem dX8_again_72 : decode cX8_again 72 = .ok (.aload_n 0, 1) := by decide +kernel
theorem dX8_again_73 : decode cX8_again 73 = .ok (.getfield 33, 3) := by decide +kernel
theorem dX8_again_76 : decode cX8_again 76 = .ok (.iload_n 2, 1) := by decide +kernel
theorem dX8_again_77 : decode cX8_again 77 = .ok (.aload_n 0, 1) := by decide +kernel
theorem dX8_again_78 : decode cX8_again 78 = .ok (.getfield 63, 3) := by decide +kernel
theorem dX8_again_81 : decode cX8_again 81 = .ok (.iconst 4, 1) := by decide +kernel
theorem dX8_again_82 : decode cX8_again 82 = .ok (.iload_n 1, 1) := by decide +kernel
theorem dX8_again_83 : decode cX8_again 83 = .ok (.imul, 1) := by decide +kernel
theorem dX8_again_84 : decode cX8_again 84 = .ok (.iload_n 2, 1) := by decide +kernel
theorem dX8_again_85 : decode cX8_again 85 = .ok (.iadd, 1) := by decide +kernel
theorem dX8_again_86 : decode cX8_again 86 = .ok (.laload, 1) := by decide +kernel
theorem dX8_again_87 : decode cX8_again 87 = .ok (.lastore, 1) := by decide +kernel
theorem dX8_again_88 : decode cX8_again 88 = .ok (.aload_n 0, 1) := by decide +kernel
theorem dX8_again_89 : decode cX8_again 89 = .ok (.getfield 36, 3) := by decide +kernel
theorem dX8_again_92 : decode cX8_again 92 = .ok (.iload_n 2, 1) := by decide +kernel
theorem dX8_again_93 : decode cX8_again 93 = .ok (.aload_n 0, 1) := by decide +kernel
theorem dX8_again_94 : decode cX8_again 94 = .ok (.getfield 66, 3) := by decide +kernel
theorem dX8_again_97 : decode cX8_again 97 = .ok (.iconst 4, 1) := by decide +kernel
theorem dX8_again_98 : decode cX8_again 98 = .ok (.iload_n 1, 1) := by decide +kernel
theorem dX8_again_99 : decode cX8_again 99 = .ok (.imul, 1) := by decide +kernel
theorem dX8_again_100 : decode cX8_again 100 = .ok (.iload_n 2, 1) := by decide +kernel
theorem dX8_again_101 : decode cX8_again 101 = .ok (.iadd, 1) := by decide +kernel
theorem dX8_again_102 : decode cX8_again 102 = .ok (.baload, 1) := by decide +kernel
theorem dX8_again_103 : decode cX8_again 103 = .ok (.bastore, 1) := by decide +kernel
theorem dX8_again_104 : decode cX8_again 104 = .ok (.iinc 2 1, 3) := by decide +kernel
theorem dX8_again_107 : decode cX8_again 107 = .ok (.goto (-40), 3) := by decide +kernel
theorem dX8_again_110 : decode cX8_again 110 = .ok (.aload_n 0, 1) := by decide +kernel
theorem dX8_again_111 : decode cX8_again 111 = .ok (.invokevirtual 216, 3) := by decide +kernel
theorem dX8_again_114 : decode cX8_again 114 = .ok (.ireturn, 1) := by decide +kernel
set_option maxRecDepth 20000 in
theorem ggX8_count_X8_ones : GoodIn wsX8_count wsX8_ones := goodIn_r _ [7] (by decide +kernel) (by decide +kernel)
set_option maxRecDepth 20000 in
theorem gX8_count_X8_ones : GoodIn wsX8_count (va_wsS RX8 110 yX8_ones wsX8_ones) := goodIn_app (goodIn_of _ (by decide +kernel)) ggX8_count_X8_ones
set_option maxRecDepth 20000 in
theorem ggX8_count_X8_some : GoodIn wsX8_count wsX8_some := goodIn_r _ [11, 1, 12, 13, 14, 15, 16, 17, 18, 19, 20, 21, 22, 23, 24, 25, 26, 27, 28, 29, 30, 31, 32, 33, 34] (by decide +kernel) (by decide +kernel)
set_option maxRecDepth 20000 in
theorem gX8_count_X8_some : GoodIn wsX8_count (wsV RX8 216 RX8 yX8_some wsX8_some) := goodIn_app (goodIn_of _ (by decide +kernel)) ggX8_count_X8_some
theorem dX8_count_0 : decode cX8_count 0 = .ok (.iconst 0, 1) := by decide +kernel
theorem dX8_count_1 : decode cX8_count 1 = .ok (.istore_n 2, 1) := by decide +kernel
theorem dX8_count_2 : decode cX8_count 2 = .ok (.iconst 0, 1) := by decide +kernel
theorem dX8_count_3 : decode cX8_count 3 = .ok (.istore_n 3, 1) := by decide +kernel
theorem dX8_count_4 : decode cX8_count 4 = .ok (.iload_n 3, 1) := by decide +kernel
theorem dX8_count_5 : decode cX8_count 5 = .ok (.bipush 8, 2) := by decide +kernel
theorem dX8_count_7 : decode cX8_count 7 = .ok (.if_icmp .ge 21, 3) := by decide +kernel
theorem dX8_count_10 : decode cX8_count 10 = .ok (.iload_n 2, 1) := by decide +kernel
theorem dX8_count_11 : decode cX8_count 11 = .ok (.aload_n 0, 1) := by decide +kernel
theorem dX8_count_12 : decode cX8_count 12 = .ok (.getfield 17, 3) := by decide +kernel
theorem dX8_count_15 : decode cX8_count 15 = .ok (.iload_n 3, 1) := by decide +kernel
theorem dX8_count_16 : decode cX8_count 16 = .ok (.laload, 1) := by decide +kernel
theorem dX8_count_17 : decode cX8_count 17 = .ok (.invokestatic 110, 3) := by decide +kernel
theorem dX8_count_20 : decode cX8_count 20 = .ok (.iadd, 1) := by decide +kernel
theorem dX8_count_21 : decode cX8_count 21 = .ok (.istore_n 2, 1) := by decide +kernel
theorem dX8_count_22 : decode cX8_count 22 = .ok (.iinc 3 1, 3) := by decide +kernel
theorem dX8_count_25 : decode cX8_count 25 = .ok (.goto (-21), 3) := by decide +kernel
theorem dX8_count_28 : decode cX8_count 28 = .ok (.iload_n 1, 1) := by decide +kernel
theorem dX8_count_29 : decode cX8_count 29 = .ok (.tableswitch 48 0 3 #[31, 36, 41, 46], 31) := by decide +kernel
theorem dX8_count_60 : decode cX8_count 60 = .ok (.aload_n 0, 1) := by decide +kernel
theorem dX8_count_61 : decode cX8_count 61 = .ok (.getfield 85, 3) := by decide +kernel
theorem dX8_count_64 : decode cX8_count 64 = .ok (.ireturn, 1) := by decide +kernel
theorem dX8_count_65 : decode cX8_count 65 = .ok (.aload_n 0, 1) := by decide +kernel
theorem dX8_count_66 : decode cX8_count 66 = .ok (.getfield 197, 3) := by decide +kernel
theorem dX8_count_69 : decode cX8_count 69 = .ok (.ireturn, 1) := by decide +kernel
theorem dX8_count_70 : decode cX8_count 70 = .ok (.aload_n 0, 1) := by decide +kernel
theorem dX8_count_71 : decode cX8_count 71 = .ok (.invokevirtual 216, 3) := by decide +kernel
theorem dX8_count_74 : decode cX8_count 74 = .ok (.ireturn, 1) := by decide +kernel
theorem dX8_count_75 : decode cX8_count 75 = .ok (.iload_n 2, 1) := by decide +kernel
theorem dX8_count_76 : decode cX8_count 76 = .ok (.ireturn, 1) := by decide +kernel
theorem dX8_count_77 : decode cX8_count 77 = .ok (.bipush (-2), 2) := by decide +kernel
theorem dX8_count_79 : decode cX8_count 79 = .ok (.ireturn, 1) := by decide +kernel
theorem dJ13_bitCount_95d88_0 : decode cJ13_bitCount_95d88 0 = .ok (.lload_n 0, 1) := by decide +kernel
theorem dJ13_bitCount_95d88_1 : decode cJ13_bitCount_95d88 1 = .ok (.lload_n 0, 1) := by decide +kernel
theorem dJ13_bitCount_95d88_2 : decode cJ13_bitCount_95d88 2 = .ok (.iconst 1, 1) := by decide +kernel
theorem dJ13_bitCount_95d88_3 : decode cJ13_bitCount_95d88 3 = .ok (.lushr, 1) := by decide +kernel
theorem dJ13_bitCount_95d88_4 : decode cJ13_bitCount_95d88 4 = .ok (.ldc2_w 314, 3) := by decide +kernel
theorem dJ13_bitCount_95d88_7 : decode cJ13_bitCount_95d88 7 = .ok (.land, 1) := by decide +kernel
theorem dJ13_bitCount_95d88_8 : decode cJ13_bitCount_95d88 8 = .ok (.lsub, 1) := by decide +kernel
theorem dJ13_bitCount_95d88_9 : decode cJ13_bitCount_95d88 9 = .ok (.lstore_n 0, 1) := by decide +kernel
theorem dJ13_bitCount_95d88_10 : decode cJ13_bitCount_95d88 10 = .ok (.lload_n 0, 1) := by decide +kernel
theorem dJ13_bitCount_95d88_11 : decode cJ13_bitCount_95d88 11 = .ok (.ldc2_w 316, 3) := by decide +kernel
theorem dJ13_bitCount_95d88_14 : decode cJ13_bitCount_95d88 14 = .ok (.land, 1) := by decide +kernel
theorem dJ13_bitCount_95d88_15 : decode cJ13_bitCount_95d88 15 = .ok (.lload_n 0, 1) := by decide +kernel
theorem dJ13_bitCount_95d88_16 : decode cJ13_bitCount_95d88 16 = .ok (.iconst 2, 1) := by decide +kernel
theorem dJ13_bitCount_95d88_17 : decode cJ13_bitCount_95d88 17 = .ok (.lushr, 1) := by decide +kernel
theorem dJ13_bitCount_95d88_18 : decode cJ13_bitCount_95d88 18 = .ok (.ldc2_w 316, 3) := by decide +kernel
theorem dJ13_bitCount_95d88_21 : decode cJ13_bitCount_95d88 21 = .ok (.land, 1) := by decide +kernel
theorem dJ13_bitCount_95d88_22 : decode cJ13_bitCount_95d88 22 = .ok (.ladd, 1) := by decide +kernel
theorem dJ13_bitCount_95d88_23 : decode cJ13_bitCount_95d88 23 = .ok (.lstore_n 0, 1) := by decide +kernel
theorem dJ13_bitCount_95d88_24 : decode cJ13_bitCount_95d88 24 = .ok (.lload_n 0, 1) := by decide +kernel
theorem dJ13_bitCount_95d88_25 : decode cJ13_bitCount_95d88 25 = .ok (.lload_n 0, 1) := by decide +kernel
theorem dJ13_bitCount_95d88_26 : decode cJ13_bitCount_95d88 26 = .ok (.iconst 4, 1) := by decide +kernel
theorem dJ13_bitCount_95d88_27 : decode cJ13_bitCount_95d88 27 = .ok (.lushr, 1) := by decide +kernel
theorem dJ13_bitCount_95d88_28 : decode cJ13_bitCount_95d88 28 = .ok (.ladd, 1) := by decide +kernel
theorem dJ13_bitCount_95d88_29 : decode cJ13_bitCount_95d88 29 = .ok (.ldc2_w 318, 3) := by decide +kernel
theorem dJ13_bitCount_95d88_32 : decode cJ13_bitCount_95d88 32 = .ok (.land, 1) := by decide +kernel
theorem dJ13_bitCount_95d88_33 : decode cJ13_bitCount_95d88 33 = .ok (.lstore_n 0, 1) := by decide +kernel
theorem dJ13_bitCount_95d88_34 : decode cJ13_bitCount_95d88 34 = .ok (.lload_n 0, 1) := by decide +kernel
theorem dJ13_bitCount_95d88_35 : decode cJ13_bitCount_95d88 35 = .ok (.lload_n 0, 1) := by decide +kernel
theorem dJ13_bitCount_95d88_36 : decode cJ13_bitCount_95d88 36 = .ok (.bipush 8, 2) := by decide +kernel
theorem dJ13_bitCount_95d88_38 : decode cJ13_bitCount_95d88 38 = .ok (.lushr, 1) := by decide +kernel
theorem dJ13_bitCount_95d88_39 : decode cJ13_bitCount_95d88 39 = .ok (.ladd, 1) := by decide +kernel
theorem dJ13_bitCount_95d88_40 : decode cJ13_bitCount_95d88 40 = .ok (.lstore_n 0, 1) := by decide +kernel
theorem dJ13_bitCount_95d88_41 : decode cJ13_bitCount_95d88 41 = .ok (.lload_n 0, 1) := by decide +kernel
theorem dJ13_bitCount_95d88_42 : decode cJ13_bitCount_95d88 42 = .ok (.lload_n 0, 1) := by decide +kernel
theorem dJ13_bitCount_95d88_43 : decode cJ13_bitCount_95d88 43 = .ok (.bipush 16, 2) := by decide +kernel
theorem dJ13_bitCount_95d88_45 : decode cJ13_bitCount_95d88 45 = .ok (.lushr, 1) := by decide +kernel
theorem dJ13_bitCount_95d88_46 : decode cJ13_bitCount_95d88 46 = .ok (.ladd, 1) := by decide +kernel
theorem dJ13_bitCount_95d88_47 : decode cJ13_bitCount_95d88 47 = .ok (.lstore_n 0, 1) := by decide +kernel
theorem dJ13_bitCount_95d88_48 : decode cJ13_bitCount_95d88 48 = .ok (.lload_n 0, 1) := by decide +kernel
theorem dJ13_bitCount_95d88_49 : decode cJ13_bitCount_95d88 49 = .ok (.lload_n 0, 1) := by decide +kernel
theorem dJ13_bitCount_95d88_50 : decode cJ13_bitCount_95d88 50 = .ok (.bipush 32, 2) := by decide +kernel
theorem dJ13_bitCount_95d88_52 : decode cJ13_bitCount_95d88 52 = .ok (.lushr, 1) := by decide +kernel
theorem dJ13_bitCount_95d88_53 : decode cJ13_bitCount_95d88 53 = .ok (.ladd, 1) := by decide +kernel
theorem dJ13_bitCount_95d88_54 : decode cJ13_bitCount_95d88 54 = .ok (.lstore_n 0, 1) := by decide +kernel
theorem dJ13_bitCount_95d88_55 : decode cJ13_bitCount_95d88 55 = .ok (.lload_n 0, 1) := by decide +kernel
theorem dJ13_bitCount_95d88_56 : decode cJ13_bitCount_95d88 56 = .ok (.l2i, 1) := by decide +kernel
theorem dJ13_bitCount_95d88_57 : decode cJ13_bitCount_95d88 57 = .ok (.bipush 127, 2) := by decide +kernel
theorem dJ13_bitCount_95d88_59 : decode cJ13_bitCount_95d88 59 = .ok (.iand, 1) := by decide +kernel
theorem dJ13_bitCount_95d88_60 : decode cJ13_bitCount_95d88 60 = .ok (.ireturn, 1) := by decide +kernel
theorem dJ9_abs_0f7a4_0 : decode cJ9_abs_0f7a4 0 = .ok (.iload_n 0, 1) := by decide +kernel
theorem dJ9_abs_0f7a4_1 : decode cJ9_abs_0f7a4 1 = .ok (.ifCond .ge 8, 3) := by decide +kernel
theorem dJ9_abs_0f7a4_4 : decode cJ9_abs_0f7a4 4 = .ok (.iload_n 0, 1) := by decide +kernel
theorem dJ9_abs_0f7a4_5 : decode cJ9_abs_0f7a4 5 = .ok (.ineg, 1) := by decide +kernel
theorem dJ9_abs_0f7a4_6 : decode cJ9_abs_0f7a4 6 = .ok (.goto 4, 3) := by decide +kernel
theorem dJ9_abs_0f7a4_9 : decode cJ9_abs_0f7a4 9 = .ok (.iload_n 0, 1) := by decide +kernel
theorem dJ9_abs_0f7a4_10 : decode cJ9_abs_0f7a4 10 = .ok (.ireturn, 1) := by decide +kernel
